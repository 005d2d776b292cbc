/-! the reference: methods that read -/
theorem lk_lt {c s : Nat} (hc : c < 9) (hs : s < 4) : lk c s < 24 := by unfold lk; split <;> (try split) <;> omega
theorem ot_lt {c s : Nat} (hc : c < 9) (hs : s < 4) : ot c s < 21 := by unfold ot; (repeat' split) <;> omega
/-- sums of longs, as the machine adds them -/
def smL : Nat → (Nat → Int64) → Int64
  | 0, _ => 0
  | n + 1, f => smL n f + f n
/-- the reference's head of an end, times the determinant; a relaxed head of an end -/
def hdM (u : MS) (e : Nat) : Int64 := if e < 9 then u.2.2.1 9 e else (u.1 1 (24 + e - 9)).toInt64 * u.2.2.2.2.2.1
def rxM (u : MS) (e : Nat) : UInt64 := if e < 9 then u.2.1 2 e else FP.i2d (u.1 1 (24 + e - 9))
def flC (k : Nat) : Nat := if k < 12 then 3 * (k % 12 / 4) + (if k % 4 < 3 then k % 4 else 2) else 3 * (if k % 4 < 3 then k % 4 else 2) + k % 12 / 4
def flS (k : Nat) : Nat := if k < 12 then (if k % 4 < 3 then 3 else 1) else if k % 4 < 3 then 0 else 2
def flM (u : MS) (k : Nat) : Int64 := (u.1 1 k).toInt64 * (if k % 4 < 3 then hdM u (ot (flC k) (flS k)) - hdM u (flC k) else hdM u (flC k) - hdM u (ot (flC k) (flS k)))
def ifC (d k : Nat) : Nat := if d = 0 then k else if d = 1 then 3 * k + 2 else if d = 2 then 6 + k else 3 * k
def ifM (u : MS) (d : Nat) : Int64 := smL 3 (fun k => (u.1 1 (lk (ifC d k) d)).toInt64 * (hdM u (ot (ifC d k) d) - u.2.2.1 9 (ifC d k)))
def ddM (u : MS) (q : Nat) : Int64 := smL 9 (fun j => u.2.2.1 8 (9 * q + j) * (u.1 1 (45 + j)).toInt64)
/-- the greatest rate of b beside a rate of a: from place i on, with most so far -/
def rfM (ab adj : Nat → Int64) (a b : Nat) (t : Int64) : Nat → Nat → Int64 → Int64
  | 0, _, z => z
  | n + 1, i, z => if ab i - adj (9 * i + a) * t < 0 then -1 else rfM ab adj a b t n (i + 1) (if 0 < adj (9 * i + b) ∧ (ab i - adj (9 * i + a) * t) / adj (9 * i + b) < z then (ab i - adj (9 * i + a) * t) / adj (9 * i + b) else z)
theorem hd_X3_thrown : yX3_thrown.cls = RX3 ∧ yX3_thrown.cls ≠ "java/lang/invoke/MethodHandle" ∧ yX3_thrown.cls ≠ "java/lang/invoke/VarHandle" ∧ (parseMethodDescriptor yX3_thrown.desc).map (fun d => d.parameters.length) = some 0 := by decide +kernel
set_option maxHeartbeats 4000000 in
set_option maxRecDepth 100000 in
/-- thrown() -/
theorem c_X3_thrown (l : Launch) (dd : va_G) (cy : Nat → ClassId) (ad : Nat → Nat) (X : va_W) (u : MS)  : Met l yX3_thrown wsX3_thrown ({ frames := 0, cells := 0, slots := 0, locals := 0 }) (va_Pc [.ref (ad 0)] (rdW dd cy (wM cy ad u ++ X))) (vp_Si (fun r => r = u.2.2.2.2.1)) 0 0 (fun _ => False) := by
  refine Met.ofW (cc := cX3_thrown) (maxL := 1) (ret := (some .int)) (by decide) rfl ?_
  intro p e s m args below meth c s₁ B hml hv
  obtain ⟨rfl, hP, hK⟩ := hv
  have hx := B.exec
  have hb := B.bytes
  have hr := B.returns
  have hts := atoms_spec (ws := wsX3_thrown) B.pre
  have hown : s.vm.findClass RX3 = some m.cls := findClass_of_methodNamed B.named
  have hlocks := B.notSynchronized
  have hl := lv_entry ([.ref (ad 0)]) (n := 1) (Nat.le_of_ble_eq_true rfl)
  rw [lg_entry_eq]
  generalize (lg_sl ([.ref (ad 0)]) ++ List.replicate (1 - (lg_sl ([.ref (ad 0)])).length) Slot.unset).toArray = ls at hl ⊢
  have hl : lv_has ls 1 [(0, .ref (ad 0))] := hl
  refine lv_aload_n hx hb dX3_thrown_0 rfl (lv_at hl 0 rfl) ?_
  refine va_get (D := dd) (ci := 5) (v := .int u.2.2.2.2.1) (C := RX3) (T := TX3) (N := 15) hx hb hts (fun _ h9 => List.mem_cons_of_mem _ (List.mem_append_right _ h9)) hown hK hP 0 (wM_0 cy ad u X) rfl 5 (by decide) (hts (Cond.fieldLink RX3 45 "HeadGridModel" "thrown" "I") (List.mem_of_getElem? (i := 1) rfl)) (fun _ h9 => h9) rfl dX3_thrown_1 ?_
  exact W.iret (v := u.2.2.2.2.1) hx hb hr (fun t ht hW => ⟨u.2.2.2.2.1, rfl, rfl, ht⟩) (fun q hq => absurd hq List.not_mem_nil) dX3_thrown_4
theorem hd_X3_conductanceOf : yX3_conductanceOf.cls = RX3 ∧ yX3_conductanceOf.cls ≠ "java/lang/invoke/MethodHandle" ∧ yX3_conductanceOf.cls ≠ "java/lang/invoke/VarHandle" ∧ (parseMethodDescriptor yX3_conductanceOf.desc).map (fun d => d.parameters.length) = some 2 := by decide +kernel
set_option maxHeartbeats 4000000 in
set_option maxRecDepth 100000 in
/-- conductanceOf(cell, side) -/
theorem c_X3_conductanceOf (l : Launch) (dd : va_G) (cy : Nat → ClassId) (ad : Nat → Nat) (X : va_W) (u : MS) (q s0 : Nat) (hq : q < 9) (hs0 : s0 < 4) : Met l yX3_conductanceOf wsX3_conductanceOf ({ frames := 1, cells := 0, slots := 0, locals := 23 }) (va_Pc [.ref (ad 0), .int (nI q), .int (nI s0)] (rdW dd cy (wM cy ad u ++ X))) (vp_Si (fun r => r = u.1 1 (lk q s0))) 0 0 (fun _ => False) := by
  refine Met.ofW (cc := cX3_conductanceOf) (maxL := 3) (ret := (some .int)) (by decide) rfl ?_
  intro p e s m args below meth c s₁ B hml hv
  obtain ⟨rfl, hP, hK⟩ := hv
  have hx := B.exec
  have hb := B.bytes
  have hr := B.returns
  have hts := atoms_spec (ws := wsX3_conductanceOf) B.pre
  have hown : s.vm.findClass RX3 = some m.cls := findClass_of_methodNamed B.named
  have hlocks := B.notSynchronized
  have hl := lv_entry ([.ref (ad 0), .int (nI q), .int (nI s0)]) (n := 3) (Nat.le_of_ble_eq_true rfl)
  rw [lg_entry_eq]
  generalize (lg_sl ([.ref (ad 0), .int (nI q), .int (nI s0)]) ++ List.replicate (3 - (lg_sl ([.ref (ad 0), .int (nI q), .int (nI s0)])).length) Slot.unset).toArray = ls at hl ⊢
  have hl : lv_has ls 3 [(0, .ref (ad 0)), (1, .int (nI q)), (2, .int (nI s0))] := hl
  refine lv_aload_n hx hb dX3_conductanceOf_0 rfl (lv_at hl 0 rfl) ?_
  refine va_get (D := dd) (ci := 5) (v := .ref (ad 1)) (C := RX3) (T := TX3) (N := 15) hx hb hts (fun _ h9 => List.mem_cons_of_mem _ (List.mem_append_left _ (List.mem_append_right _ h9))) hown hK hP 0 (wM_0 cy ad u X) rfl 0 (by decide) (hts (Cond.fieldLink RX3 7 "HeadGridModel" "now" "[I") (List.mem_of_getElem? (i := 1) rfl)) (fun _ h9 => h9) rfl dX3_conductanceOf_1 ?_
  refine lv_iconst (v := nI 0) hx hb dX3_conductanceOf_4 (by decide) ?_
  refine lv_iload_n hx hb dX3_conductanceOf_5 rfl (lv_at hl 1 rfl) ?_
  refine lv_iload_n hx hb dX3_conductanceOf_6 rfl (lv_at hl 2 rfl) ?_
  refine vp_callSi (va_runS (As := [.int (nI q), .int (nI s0)]) (rest := [.int (nI 0), .ref (ad 1)]) ⟨hx, hb, hml, hown, hts⟩ (c_X3_linkOf l q s0 (by omega) (by omega)) (va_cwS 2 hts gX3_conductanceOf_X3_linkOf rfl rfl rfl hd_X3_linkOf ⟨Nat.le_of_ble_eq_true rfl, Nat.le_of_ble_eq_true rfl⟩) ⟨fun a U g mk q => q, fun U hU hW => ⟨rfl, trivial⟩⟩ rfl rfl hl.1 rfl (lv_room (Nat.le_of_ble_eq_true rfl)) dX3_conductanceOf_7 ⟨Nat.le_of_ble_eq_true rfl, Nat.le_of_ble_eq_true rfl⟩).run (fun r1 hr1 => ?_)
  have hr1 : r1 = (nI (lk q s0)) := hr1
  subst hr1
  have ho2 := lk_lt (c := q) (s := s0) (by omega) (by omega)
  refine wn_iadd hx hb dX3_conductanceOf_10 ?_
  refine wa_iald hx hb hK hP (wM_1 cy ad u X) (t0 := 0) rfl (i := 0 + (lk q s0)) (by have := lk_lt hq hs0; omega) (by decide) dX3_conductanceOf_11 ?_
  exact W.iret (v := u.1 1 (0 + (lk q s0))) hx hb hr (fun t ht hW => ⟨u.1 1 (0 + (lk q s0)), rfl, (by rw [Nat.zero_add]), ht⟩) (fun q hq => absurd hq List.not_mem_nil) dX3_conductanceOf_12
theorem hd_X3_headAt : yX3_headAt.cls = RX3 ∧ yX3_headAt.cls ≠ "java/lang/invoke/MethodHandle" ∧ yX3_headAt.cls ≠ "java/lang/invoke/VarHandle" ∧ (parseMethodDescriptor yX3_headAt.desc).map (fun d => d.parameters.length) = some 1 := by decide +kernel
set_option maxHeartbeats 4000000 in
set_option maxRecDepth 100000 in
/-- headAt(end) -/
theorem c_X3_headAt (l : Launch) (dd : va_G) (cy : Nat → ClassId) (ad : Nat → Nat) (X : va_W) (u : MS) (q : Nat) (hq : q < 21) : Met l yX3_headAt wsX3_headAt ({ frames := 0, cells := 0, slots := 0, locals := 0 }) (va_Pc [.ref (ad 0), .int (nI q)] (rdW dd cy (wM cy ad u ++ X))) (vp_Sl (fun r => r = hdM u q)) 0 0 (fun _ => False) := by
  refine Met.ofW (cc := cX3_headAt) (maxL := 2) (ret := (some .long)) (by decide) rfl ?_
  intro p e s m args below meth c s₁ B hml hv
  obtain ⟨rfl, hP, hK⟩ := hv
  have hx := B.exec
  have hb := B.bytes
  have hr := B.returns
  have hts := atoms_spec (ws := wsX3_headAt) B.pre
  have hown : s.vm.findClass RX3 = some m.cls := findClass_of_methodNamed B.named
  have hlocks := B.notSynchronized
  have hl := lv_entry ([.ref (ad 0), .int (nI q)]) (n := 2) (Nat.le_of_ble_eq_true rfl)
  rw [lg_entry_eq]
  generalize (lg_sl ([.ref (ad 0), .int (nI q)]) ++ List.replicate (2 - (lg_sl ([.ref (ad 0), .int (nI q)])).length) Slot.unset).toArray = ls at hl ⊢
  have hl : lv_has ls 2 [(0, .ref (ad 0)), (1, .int (nI q))] := hl
  refine lv_iload_n hx hb dX3_headAt_0 rfl (lv_at hl 1 rfl) ?_
  refine lv_bipush (v := nI 9) hx hb dX3_headAt_1 (by decide) ?_
  refine wn_icmp_ge (tgt := 15) hx hb dX3_headAt_3 (by decide) (by omega) (by omega) (fun c1 => ?_) (fun c1 => ?_)
  · refine lv_aload_n hx hb dX3_headAt_15 rfl (lv_at hl 0 rfl) ?_
    refine va_get (D := dd) (ci := 5) (v := .ref (ad 1)) (C := RX3) (T := TX3) (N := 15) hx hb hts (fun _ h9 => List.mem_cons_of_mem _ (List.mem_append_left _ (List.mem_append_right _ h9))) hown hK hP 0 (wM_0 cy ad u X) rfl 0 (by decide) (hts (Cond.fieldLink RX3 7 "HeadGridModel" "now" "[I") (List.mem_of_getElem? (i := 2) rfl)) (fun _ h9 => h9) rfl dX3_headAt_16 ?_
    refine lv_bipush (v := nI 24) hx hb dX3_headAt_19 (by decide) ?_
    refine lv_iload_n hx hb dX3_headAt_21 rfl (lv_at hl 1 rfl) ?_
    refine wn_iadd hx hb dX3_headAt_22 ?_
    refine lv_bipush (v := nI 9) hx hb dX3_headAt_23 (by decide) ?_
    refine wn_isub hx hb dX3_headAt_25 (by omega) ?_
    refine wa_iald hx hb hK hP (wM_1 cy ad u X) (t0 := 0) rfl (i := (24 + q) - 9) (by omega) (by decide) dX3_headAt_26 ?_
    refine lv_i2l hx hb dX3_headAt_27 rfl ?_
    refine lv_aload_n hx hb dX3_headAt_28 rfl (lv_at hl 0 rfl) ?_
    refine va_get (D := dd) (ci := 5) (v := .long u.2.2.2.2.2.1) (C := RX3) (T := TX3) (N := 15) hx hb hts (fun _ h9 => List.mem_cons_of_mem _ (List.mem_append_left _ (List.mem_append_right _ h9))) hown hK hP 0 (wM_0 cy ad u X) rfl 10 (by decide) (hts (Cond.fieldLink RX3 87 "HeadGridModel" "whole" "J") (List.mem_of_getElem? (i := 3) rfl)) (fun _ h9 => h9) rfl dX3_headAt_29 ?_
    refine lv_lmul hx hb dX3_headAt_32 ?_
    exact W.lret (v := ((u.1 1 ((24 + q) - 9)).toInt64 * u.2.2.2.2.2.1)) hx hb hr (fun t ht hW => ⟨((u.1 1 ((24 + q) - 9)).toInt64 * u.2.2.2.2.2.1), rfl, (by unfold hdM; split <;> first | rfl | (exfalso; omega)), ht⟩) (fun q hq => absurd hq List.not_mem_nil) dX3_headAt_33
  · refine lv_aload_n hx hb dX3_headAt_6 rfl (lv_at hl 0 rfl) ?_
    refine va_get (D := dd) (ci := 5) (v := .ref (ad 9)) (C := RX3) (T := TX3) (N := 15) hx hb hts (fun _ h9 => List.mem_cons_of_mem _ (List.mem_append_left _ (List.mem_append_right _ h9))) hown hK hP 0 (wM_0 cy ad u X) rfl 11 (by decide) (hts (Cond.fieldLink RX3 36 "HeadGridModel" "heads" "[J") (List.mem_of_getElem? (i := 1) rfl)) (fun _ h9 => h9) rfl dX3_headAt_7 ?_
    refine lv_iload_n hx hb dX3_headAt_10 rfl (lv_at hl 1 rfl) ?_
    refine wa_lald hx hb hK hP (wM_9 cy ad u X) (t0 := 1) rfl (i := q) (by omega) (by decide) dX3_headAt_11 ?_
    refine lv_goto (tgt := 33) hx hb dX3_headAt_12 (by decide) ?_
    exact W.lret (v := u.2.2.1 9 q) hx hb hr (fun t ht hW => ⟨u.2.2.1 9 q, rfl, (by unfold hdM; split <;> first | rfl | (exfalso; omega)), ht⟩) (fun q hq => absurd hq List.not_mem_nil) dX3_headAt_33
theorem hd_X3_relaxedAt : yX3_relaxedAt.cls = RX3 ∧ yX3_relaxedAt.cls ≠ "java/lang/invoke/MethodHandle" ∧ yX3_relaxedAt.cls ≠ "java/lang/invoke/VarHandle" ∧ (parseMethodDescriptor yX3_relaxedAt.desc).map (fun d => d.parameters.length) = some 1 := by decide +kernel
set_option maxHeartbeats 4000000 in
set_option maxRecDepth 100000 in
/-- relaxedAt(end) -/
theorem c_X3_relaxedAt (l : Launch) (dd : va_G) (cy : Nat → ClassId) (ad : Nat → Nat) (X : va_W) (u : MS) (q : Nat) (hq : q < 21) : Met l yX3_relaxedAt wsX3_relaxedAt ({ frames := 0, cells := 0, slots := 0, locals := 0 }) (va_Pc [.ref (ad 0), .int (nI q)] (rdW dd cy (wM cy ad u ++ X))) (vp_Sd (fun r => r = rxM u q)) 0 0 (fun _ => False) := by
  refine Met.ofW (cc := cX3_relaxedAt) (maxL := 2) (ret := (some .double)) (by decide) rfl ?_
  intro p e s m args below meth c s₁ B hml hv
  obtain ⟨rfl, hP, hK⟩ := hv
  have hx := B.exec
  have hb := B.bytes
  have hr := B.returns
  have hts := atoms_spec (ws := wsX3_relaxedAt) B.pre
  have hown : s.vm.findClass RX3 = some m.cls := findClass_of_methodNamed B.named
  have hlocks := B.notSynchronized
  have hl := lv_entry ([.ref (ad 0), .int (nI q)]) (n := 2) (Nat.le_of_ble_eq_true rfl)
  rw [lg_entry_eq]
  generalize (lg_sl ([.ref (ad 0), .int (nI q)]) ++ List.replicate (2 - (lg_sl ([.ref (ad 0), .int (nI q)])).length) Slot.unset).toArray = ls at hl ⊢
  have hl : lv_has ls 2 [(0, .ref (ad 0)), (1, .int (nI q))] := hl
  refine lv_iload_n hx hb dX3_relaxedAt_0 rfl (lv_at hl 1 rfl) ?_
  refine lv_bipush (v := nI 9) hx hb dX3_relaxedAt_1 (by decide) ?_
  refine wn_icmp_ge (tgt := 15) hx hb dX3_relaxedAt_3 (by decide) (by omega) (by omega) (fun c1 => ?_) (fun c1 => ?_)
  · refine lv_aload_n hx hb dX3_relaxedAt_15 rfl (lv_at hl 0 rfl) ?_
    refine va_get (D := dd) (ci := 5) (v := .ref (ad 1)) (C := RX3) (T := TX3) (N := 15) hx hb hts (fun _ h9 => List.mem_cons_of_mem _ (List.mem_append_left _ (List.mem_append_right _ h9))) hown hK hP 0 (wM_0 cy ad u X) rfl 0 (by decide) (hts (Cond.fieldLink RX3 7 "HeadGridModel" "now" "[I") (List.mem_of_getElem? (i := 2) rfl)) (fun _ h9 => h9) rfl dX3_relaxedAt_16 ?_
    refine lv_bipush (v := nI 24) hx hb dX3_relaxedAt_19 (by decide) ?_
    refine lv_iload_n hx hb dX3_relaxedAt_21 rfl (lv_at hl 1 rfl) ?_
    refine wn_iadd hx hb dX3_relaxedAt_22 ?_
    refine lv_bipush (v := nI 9) hx hb dX3_relaxedAt_23 (by decide) ?_
    refine wn_isub hx hb dX3_relaxedAt_25 (by omega) ?_
    refine wa_iald hx hb hK hP (wM_1 cy ad u X) (t0 := 0) rfl (i := (24 + q) - 9) (by omega) (by decide) dX3_relaxedAt_26 ?_
    refine lv_i2d hx hb dX3_relaxedAt_27 ?_
    exact W.dret (v := (FP.i2d (u.1 1 ((24 + q) - 9)))) hx hb hr (fun t ht hW => ⟨(FP.i2d (u.1 1 ((24 + q) - 9))), rfl, (by unfold rxM; split <;> first | rfl | (exfalso; omega)), ht⟩) (fun q hq => absurd hq List.not_mem_nil) dX3_relaxedAt_28
  · refine lv_aload_n hx hb dX3_relaxedAt_6 rfl (lv_at hl 0 rfl) ?_
    refine va_get (D := dd) (ci := 5) (v := .ref (ad 2)) (C := RX3) (T := TX3) (N := 15) hx hb hts (fun _ h9 => List.mem_cons_of_mem _ (List.mem_append_left _ (List.mem_append_right _ h9))) hown hK hP 0 (wM_0 cy ad u X) rfl 1 (by decide) (hts (Cond.fieldLink RX3 13 "HeadGridModel" "relaxed" "[D") (List.mem_of_getElem? (i := 1) rfl)) (fun _ h9 => h9) rfl dX3_relaxedAt_7 ?_
    refine lv_iload_n hx hb dX3_relaxedAt_10 rfl (lv_at hl 1 rfl) ?_
    refine wa_dald hx hb hK hP (wM_2 cy ad u X) (t0 := 2) rfl (i := q) (by omega) (by decide) dX3_relaxedAt_11 ?_
    refine lv_goto (tgt := 28) hx hb dX3_relaxedAt_12 (by decide) ?_
    exact W.dret (v := u.2.1 2 q) hx hb hr (fun t ht hW => ⟨u.2.1 2 q, rfl, (by unfold rxM; split <;> first | rfl | (exfalso; omega)), ht⟩) (fun q hq => absurd hq List.not_mem_nil) dX3_relaxedAt_28
theorem hd_X3_drawdownOf : yX3_drawdownOf.cls = RX3 ∧ yX3_drawdownOf.cls ≠ "java/lang/invoke/MethodHandle" ∧ yX3_drawdownOf.cls ≠ "java/lang/invoke/VarHandle" ∧ (parseMethodDescriptor yX3_drawdownOf.desc).map (fun d => d.parameters.length) = some 1 := by decide +kernel
set_option maxHeartbeats 4000000 in
set_option maxRecDepth 100000 in
/-- drawdownOf(cell) -/
theorem c_X3_drawdownOf (l : Launch) (dd : va_G) (cy : Nat → ClassId) (ad : Nat → Nat) (X : va_W) (u : MS) (q : Nat) (hq : q < 9) : Met l yX3_drawdownOf wsX3_drawdownOf ({ frames := 0, cells := 0, slots := 0, locals := 0 }) (va_Pc [.ref (ad 0), .int (nI q)] (rdW dd cy (wM cy ad u ++ X))) (vp_Sl (fun r => r = ddM u q)) 0 0 (fun _ => False) := by
  refine Met.ofW (cc := cX3_drawdownOf) (maxL := 5) (ret := (some .long)) (by decide) rfl ?_
  intro p e s m args below meth c s₁ B hml hv
  obtain ⟨rfl, hP, hK⟩ := hv
  have hx := B.exec
  have hb := B.bytes
  have hr := B.returns
  have hts := atoms_spec (ws := wsX3_drawdownOf) B.pre
  have hown : s.vm.findClass RX3 = some m.cls := findClass_of_methodNamed B.named
  have hlocks := B.notSynchronized
  have hl := lv_entry ([.ref (ad 0), .int (nI q)]) (n := 5) (Nat.le_of_ble_eq_true rfl)
  rw [lg_entry_eq]
  generalize (lg_sl ([.ref (ad 0), .int (nI q)]) ++ List.replicate (5 - (lg_sl ([.ref (ad 0), .int (nI q)])).length) Slot.unset).toArray = ls at hl ⊢
  have hl : lv_has ls 5 [(0, .ref (ad 0)), (1, .int (nI q))] := hl
  refine lv_lconst (v := 0) hx hb dX3_drawdownOf_0 rfl ?_
  refine lv_lstore_n (lv' := [(2, .long 0), (0, .ref (ad 0)), (1, .int (nI q))]) hx hb dX3_drawdownOf_1 rfl hl (by decide) rfl (fun ls hl => ?_)
  refine lv_iconst (v := nI 0) hx hb dX3_drawdownOf_2 (by decide) ?_
  refine lv_istore (lv' := [(4, .int (nI 0)), (2, .long 0), (0, .ref (ad 0)), (1, .int (nI q))]) hx hb dX3_drawdownOf_3 hl (by decide) rfl (fun ls hl => ?_)
  refine wLoopR (σ := Nat × Int64) (fun k x ls => k = 9 - x.1 ∧ (x.1 ≤ 9) ∧ (x.2 = smL x.1 (fun i9 => u.2.2.1 8 (9 * q + i9) * (u.1 1 (45 + i9)).toInt64)) ∧ lv_has ls 5 [(4, .int (nI x.1)), (2, .long x.2), (1, .int (nI q)), (0, .ref (ad 0))]) ?_ _ (0, 0) _ ⟨rfl, (by omega), rfl, lv_sub hl [0, 1, 3, 2] rfl⟩
  intro k x ls hI ih
  obtain ⟨j, z⟩ := x
  obtain ⟨hk, hj, hz, hl⟩ := hI
  have hk : k = 9 - j := hk
  have hj : j ≤ 9 := hj
  have hz : z = smL j (fun i9 => u.2.2.1 8 (9 * q + i9) * (u.1 1 (45 + i9)).toInt64) := hz
  have hl : lv_has ls 5 [(4, .int (nI j)), (2, .long z), (1, .int (nI q)), (0, .ref (ad 0))] := hl
  refine lv_iload hx hb dX3_drawdownOf_5 (lv_at hl 0 rfl) ?_
  refine lv_bipush (v := nI 9) hx hb dX3_drawdownOf_7 (by decide) ?_
  refine wn_icmp_ge (tgt := 45) hx hb dX3_drawdownOf_9 (by decide) (by omega) (by omega) (fun c1 => ?_) (fun c1 => ?_)
  · refine lv_lload_n hx hb dX3_drawdownOf_45 rfl (lv_at hl 1 rfl) ?_
    exact W.lret (v := z) hx hb hr (fun t ht hW => ⟨z, rfl, (by rw [hz, show j = 9 by omega]; rfl), ht⟩) (fun q hq => absurd hq List.not_mem_nil) dX3_drawdownOf_46
  · refine lv_lload_n hx hb dX3_drawdownOf_12 rfl (lv_at hl 1 rfl) ?_
    refine lv_aload_n hx hb dX3_drawdownOf_13 rfl (lv_at hl 3 rfl) ?_
    refine va_get (D := dd) (ci := 5) (v := .ref (ad 8)) (C := RX3) (T := TX3) (N := 15) hx hb hts (fun _ h9 => List.mem_cons_of_mem _ (List.mem_append_left _ (List.mem_append_right _ h9))) hown hK hP 0 (wM_0 cy ad u X) rfl 9 (by decide) (hts (Cond.fieldLink RX3 33 "HeadGridModel" "adjugate" "[J") (List.mem_of_getElem? (i := 1) rfl)) (fun _ h9 => h9) rfl dX3_drawdownOf_14 ?_
    refine lv_bipush (v := nI 9) hx hb dX3_drawdownOf_17 (by decide) ?_
    refine lv_iload_n hx hb dX3_drawdownOf_19 rfl (lv_at hl 2 rfl) ?_
    refine wn_imul hx hb dX3_drawdownOf_20 ?_
    refine lv_iload hx hb dX3_drawdownOf_21 (lv_at hl 0 rfl) ?_
    refine wn_iadd hx hb dX3_drawdownOf_23 ?_
    refine wa_lald hx hb hK hP (wM_8 cy ad u X) (t0 := 1) rfl (i := (9 * q) + j) (by omega) (by decide) dX3_drawdownOf_24 ?_
    refine lv_aload_n hx hb dX3_drawdownOf_25 rfl (lv_at hl 3 rfl) ?_
    refine va_get (D := dd) (ci := 5) (v := .ref (ad 1)) (C := RX3) (T := TX3) (N := 15) hx hb hts (fun _ h9 => List.mem_cons_of_mem _ (List.mem_append_left _ (List.mem_append_right _ h9))) hown hK hP 0 (wM_0 cy ad u X) rfl 0 (by decide) (hts (Cond.fieldLink RX3 7 "HeadGridModel" "now" "[I") (List.mem_of_getElem? (i := 2) rfl)) (fun _ h9 => h9) rfl dX3_drawdownOf_26 ?_
    refine lv_bipush (v := nI 45) hx hb dX3_drawdownOf_29 (by decide) ?_
    refine lv_iload hx hb dX3_drawdownOf_31 (lv_at hl 0 rfl) ?_
    refine wn_iadd hx hb dX3_drawdownOf_33 ?_
    refine wa_iald hx hb hK hP (wM_1 cy ad u X) (t0 := 0) rfl (i := 45 + j) (by omega) (by decide) dX3_drawdownOf_34 ?_
    refine lv_i2l hx hb dX3_drawdownOf_35 rfl ?_
    refine lv_lmul hx hb dX3_drawdownOf_36 ?_
    refine lv_ladd hx hb dX3_drawdownOf_37 ?_
    refine lv_topl (fun x2 ex2 => ?_)
    refine lv_lstore_n (lv' := [(2, .long x2), (4, .int (nI j)), (1, .int (nI q)), (0, .ref (ad 0))]) hx hb dX3_drawdownOf_38 rfl hl (by decide) rfl (fun ls hl => ?_)
    refine lv_iinc (v := (nI (j + 1))) (lv' := [(4, .int (nI (j + 1))), (2, .long x2), (1, .int (nI q)), (0, .ref (ad 0))]) hx hb dX3_drawdownOf_39 hl (k := 1) rfl (nI_1 _) (by decide) rfl (fun ls hl => ?_)
    refine lv_goto (tgt := 5) hx hb dX3_drawdownOf_42 (by decide) ?_
    exact ih (9 - (j + 1)) (j + 1, x2) ls (by omega) ⟨rfl, (by omega), (by rw [ex2, hz]; rfl), lv_sub hl [0, 1, 2, 3] rfl⟩
theorem hd_X3_flowOf : yX3_flowOf.cls = RX3 ∧ yX3_flowOf.cls ≠ "java/lang/invoke/MethodHandle" ∧ yX3_flowOf.cls ≠ "java/lang/invoke/VarHandle" ∧ (parseMethodDescriptor yX3_flowOf.desc).map (fun d => d.parameters.length) = some 1 := by decide +kernel
set_option maxHeartbeats 4000000 in
set_option maxRecDepth 100000 in
/-- flowOf(link) -/
theorem c_X3_flowOf (l : Launch) (dd : va_G) (cy : Nat → ClassId) (ad : Nat → Nat) (X : va_W) (u : MS) (k : Nat) (hk : k < 24) : Met l yX3_flowOf wsX3_flowOf ({ frames := 1, cells := 0, slots := 0, locals := 23 }) (va_Pc [.ref (ad 0), .int (nI k)] (rdW dd cy (wM cy ad u ++ X))) (vp_Sl (fun r => r = flM u k)) 0 0 (fun _ => False) := by
  refine Met.ofW (cc := cX3_flowOf) (maxL := 11) (ret := (some .long)) (by decide) rfl ?_
  intro p e s m args below meth c s₁ B hml hv
  obtain ⟨rfl, hP, hK⟩ := hv
  have hx := B.exec
  have hb := B.bytes
  have hr := B.returns
  have hts := atoms_spec (ws := wsX3_flowOf) B.pre
  have hown : s.vm.findClass RX3 = some m.cls := findClass_of_methodNamed B.named
  have hlocks := B.notSynchronized
  have hl := lv_entry ([.ref (ad 0), .int (nI k)]) (n := 11) (Nat.le_of_ble_eq_true rfl)
  rw [lg_entry_eq]
  generalize (lg_sl ([.ref (ad 0), .int (nI k)]) ++ List.replicate (11 - (lg_sl ([.ref (ad 0), .int (nI k)])).length) Slot.unset).toArray = ls at hl ⊢
  have hl : lv_has ls 11 [(0, .ref (ad 0)), (1, .int (nI k))] := hl
  refine lv_iload_n hx hb dX3_flowOf_0 rfl (lv_at hl 1 rfl) ?_
  refine lv_bipush (v := nI 12) hx hb dX3_flowOf_1 (by decide) ?_
  refine wn_irem hx hb dX3_flowOf_3 (by omega) (by omega) (by omega) ?_
  refine lv_iconst (v := nI 4) hx hb dX3_flowOf_4 (by decide) ?_
  refine wn_idiv hx hb dX3_flowOf_5 (by omega) (by omega) (by omega) ?_
  refine lv_istore_n (lv' := [(2, .int (nI ((k % 12) / 4))), (0, .ref (ad 0)), (1, .int (nI k))]) hx hb dX3_flowOf_6 rfl hl (by decide) rfl (fun ls hl => ?_)
  refine lv_iload_n hx hb dX3_flowOf_7 rfl (lv_at hl 2 rfl) ?_
  refine lv_iconst (v := nI 4) hx hb dX3_flowOf_8 (by decide) ?_
  refine wn_irem hx hb dX3_flowOf_9 (by omega) (by omega) (by omega) ?_
  refine lv_istore_n (lv' := [(3, .int (nI (k % 4))), (2, .int (nI ((k % 12) / 4))), (0, .ref (ad 0)), (1, .int (nI k))]) hx hb dX3_flowOf_10 rfl hl (by decide) rfl (fun ls hl => ?_)
  refine lv_iload_n hx hb dX3_flowOf_11 rfl (lv_at hl 0 rfl) ?_
  refine lv_iconst (v := nI 3) hx hb dX3_flowOf_12 (by decide) ?_
  refine wn_icmp_ge (tgt := 20) hx hb dX3_flowOf_13 (by decide) (by omega) (by omega) (fun c1 => ?_) (fun c1 => ?_)
  · refine lv_iconst (v := nI 2) hx hb dX3_flowOf_20 (by decide) ?_
    refine lv_istore (lv' := [(4, .int (nI 2)), (3, .int (nI (k % 4))), (2, .int (nI ((k % 12) / 4))), (0, .ref (ad 0)), (1, .int (nI k))]) hx hb dX3_flowOf_21 hl (by decide) rfl (fun ls hl => ?_)
    refine lv_iload_n hx hb dX3_flowOf_23 rfl (lv_at hl 4 rfl) ?_
    refine lv_bipush (v := nI 12) hx hb dX3_flowOf_24 (by decide) ?_
    refine wn_icmp_ge (tgt := 38) hx hb dX3_flowOf_26 (by decide) (by omega) (by omega) (fun c2 => ?_) (fun c2 => ?_)
    · refine lv_iconst (v := nI 3) hx hb dX3_flowOf_38 (by decide) ?_
      refine lv_iload hx hb dX3_flowOf_39 (lv_at hl 0 rfl) ?_
      refine wn_imul hx hb dX3_flowOf_41 ?_
      refine lv_iload_n hx hb dX3_flowOf_42 rfl (lv_at hl 2 rfl) ?_
      refine wn_iadd hx hb dX3_flowOf_43 ?_
      refine lv_istore (lv' := [(5, .int (nI ((3 * 2) + ((k % 12) / 4)))), (4, .int (nI 2)), (3, .int (nI (k % 4))), (2, .int (nI ((k % 12) / 4))), (0, .ref (ad 0)), (1, .int (nI k))]) hx hb dX3_flowOf_44 hl (by decide) rfl (fun ls hl => ?_)
      refine lv_iload_n hx hb dX3_flowOf_46 rfl (lv_at hl 5 rfl) ?_
      refine lv_bipush (v := nI 12) hx hb dX3_flowOf_47 (by decide) ?_
      refine wn_icmp_ge (tgt := 65) hx hb dX3_flowOf_49 (by decide) (by omega) (by omega) (fun _ => ?_) (fun c3 => absurd c2 c3)
      refine lv_iload_n hx hb dX3_flowOf_65 rfl (lv_at hl 2 rfl) ?_
      refine lv_iconst (v := nI 3) hx hb dX3_flowOf_66 (by decide) ?_
      refine wn_icmp_ge (tgt := 74) hx hb dX3_flowOf_67 (by decide) (by omega) (by omega) (fun _ => ?_) (fun c4 => absurd c1 c4)
      refine lv_iconst (v := nI 2) hx hb dX3_flowOf_74 (by decide) ?_
      refine lv_istore (lv' := [(6, .int (nI 2)), (5, .int (nI ((3 * 2) + ((k % 12) / 4)))), (4, .int (nI 2)), (3, .int (nI (k % 4))), (2, .int (nI ((k % 12) / 4))), (0, .ref (ad 0)), (1, .int (nI k))]) hx hb dX3_flowOf_75 hl (by decide) rfl (fun ls hl => ?_)
      refine lv_aload_n hx hb dX3_flowOf_77 rfl (lv_at hl 5 rfl) ?_
      refine lv_iload hx hb dX3_flowOf_78 (lv_at hl 1 rfl) ?_
      refine vp_callSl (va_runV (As := [.int (nI ((3 * 2) + ((k % 12) / 4)))]) (rest := []) ⟨hx, hb, hml, hown, hts⟩ (c_X3_headAt l dd cy ad X u ((3 * 2) + ((k % 12) / 4)) (by first | omega | exact ot_lt (by first | omega | assumption) (by first | omega | assumption))) (cwV 1 hts gX3_flowOf_X3_headAt rfl rfl rfl hd_X3_headAt ⟨Nat.le_of_ble_eq_true rfl, Nat.le_of_ble_eq_true rfl⟩) (rdW_V hP hK (wM_0 cy ad u X) rfl) rfl rfl hl.1 rfl (lv_room (Nat.le_of_ble_eq_true rfl)) dX3_flowOf_80 ⟨Nat.le_of_ble_eq_true rfl, Nat.le_of_ble_eq_true rfl⟩).run (fun r5 hr5 => ?_)
      have hr5 : r5 = (hdM u ((3 * 2) + ((k % 12) / 4))) := hr5
      subst hr5
      refine lv_topl (fun x6 ex6 => ?_)
      refine lv_lstore (lv' := [(7, .long x6), (6, .int (nI 2)), (5, .int (nI ((3 * 2) + ((k % 12) / 4)))), (4, .int (nI 2)), (3, .int (nI (k % 4))), (2, .int (nI ((k % 12) / 4))), (0, .ref (ad 0)), (1, .int (nI k))]) hx hb dX3_flowOf_83 hl (by decide) rfl (fun ls hl => ?_)
      refine lv_aload_n hx hb dX3_flowOf_85 rfl (lv_at hl 6 rfl) ?_
      refine lv_iload hx hb dX3_flowOf_86 (lv_at hl 2 rfl) ?_
      refine lv_iload hx hb dX3_flowOf_88 (lv_at hl 1 rfl) ?_
      refine vp_callSi (va_runS (As := [.int (nI ((3 * 2) + ((k % 12) / 4))), .int (nI 2)]) (rest := [.ref (ad 0)]) ⟨hx, hb, hml, hown, hts⟩ (c_X3_otherOf l ((3 * 2) + ((k % 12) / 4)) 2 (by omega) (by omega)) (va_cwS 2 hts gX3_flowOf_X3_otherOf rfl rfl rfl hd_X3_otherOf ⟨Nat.le_of_ble_eq_true rfl, Nat.le_of_ble_eq_true rfl⟩) ⟨fun a U g mk q => q, fun U hU hW => ⟨rfl, trivial⟩⟩ rfl rfl hl.1 rfl (lv_room (Nat.le_of_ble_eq_true rfl)) dX3_flowOf_90 ⟨Nat.le_of_ble_eq_true rfl, Nat.le_of_ble_eq_true rfl⟩).run (fun r7 hr7 => ?_)
      have hr7 : r7 = (nI (ot ((3 * 2) + ((k % 12) / 4)) 2)) := hr7
      subst hr7
      have ho8 := ot_lt (c := (3 * 2) + ((k % 12) / 4)) (s := 2) (by omega) (by omega)
      refine vp_callSl (va_runV (As := [.int (nI (ot ((3 * 2) + ((k % 12) / 4)) 2))]) (rest := []) ⟨hx, hb, hml, hown, hts⟩ (c_X3_headAt l dd cy ad X u (ot ((3 * 2) + ((k % 12) / 4)) 2) (by first | omega | exact ot_lt (by first | omega | assumption) (by first | omega | assumption))) (cwV 1 hts gX3_flowOf_X3_headAt rfl rfl rfl hd_X3_headAt ⟨Nat.le_of_ble_eq_true rfl, Nat.le_of_ble_eq_true rfl⟩) (rdW_V hP hK (wM_0 cy ad u X) rfl) rfl rfl hl.1 rfl (lv_room (Nat.le_of_ble_eq_true rfl)) dX3_flowOf_93 ⟨Nat.le_of_ble_eq_true rfl, Nat.le_of_ble_eq_true rfl⟩).run (fun r9 hr9 => ?_)
      have hr9 : r9 = (hdM u (ot ((3 * 2) + ((k % 12) / 4)) 2)) := hr9
      subst hr9
      refine lv_topl (fun x10 ex10 => ?_)
      refine lv_lstore (lv' := [(9, .long x10), (7, .long x6), (6, .int (nI 2)), (5, .int (nI ((3 * 2) + ((k % 12) / 4)))), (4, .int (nI 2)), (3, .int (nI (k % 4))), (2, .int (nI ((k % 12) / 4))), (0, .ref (ad 0)), (1, .int (nI k))]) hx hb dX3_flowOf_96 hl (by decide) rfl (fun ls hl => ?_)
      refine lv_aload_n hx hb dX3_flowOf_98 rfl (lv_at hl 7 rfl) ?_
      refine va_get (D := dd) (ci := 5) (v := .ref (ad 1)) (C := RX3) (T := TX3) (N := 15) hx hb hts (fun _ h9 => List.mem_cons_of_mem _ (List.mem_append_left _ (List.mem_append_right _ h9))) hown hK hP 0 (wM_0 cy ad u X) rfl 0 (by decide) (hts (Cond.fieldLink RX3 7 "HeadGridModel" "now" "[I") (List.mem_of_getElem? (i := 1) rfl)) (fun _ h9 => h9) rfl dX3_flowOf_99 ?_
      refine lv_iconst (v := nI 0) hx hb dX3_flowOf_102 (by decide) ?_
      refine lv_iload_n hx hb dX3_flowOf_103 rfl (lv_at hl 8 rfl) ?_
      refine wn_iadd hx hb dX3_flowOf_104 ?_
      refine wa_iald hx hb hK hP (wM_1 cy ad u X) (t0 := 0) rfl (i := 0 + k) (by omega) (by decide) dX3_flowOf_105 ?_
      refine lv_i2l hx hb dX3_flowOf_106 rfl ?_
      refine lv_iload_n hx hb dX3_flowOf_107 rfl (lv_at hl 5 rfl) ?_
      refine lv_iconst (v := nI 3) hx hb dX3_flowOf_108 (by decide) ?_
      refine wn_icmp_ge (tgt := 120) hx hb dX3_flowOf_109 (by decide) (by omega) (by omega) (fun _ => ?_) (fun c11 => absurd c1 c11)
      refine lv_lload hx hb dX3_flowOf_120 (lv_at hl 1 rfl) ?_
      refine lv_lload hx hb dX3_flowOf_122 (lv_at hl 0 rfl) ?_
      refine lv_lsub hx hb dX3_flowOf_124 ?_
      refine lv_lmul hx hb dX3_flowOf_125 ?_
      exact W.lret (v := ((u.1 1 (0 + k)).toInt64 * (x6 - x10))) hx hb hr (fun t ht hW => ⟨((u.1 1 (0 + k)).toInt64 * (x6 - x10)), rfl, (by unfold flM; rw [ex6, ex10, show flC k = (3 * 2) + ((k % 12) / 4) from by unfold flC; (repeat' split) <;> omega, show flS k = 2 from by unfold flS; (repeat' split) <;> omega, if_neg (by omega), Nat.zero_add]), ht⟩) (fun q hq => absurd hq List.not_mem_nil) dX3_flowOf_126
    · refine lv_iconst (v := nI 3) hx hb dX3_flowOf_29 (by decide) ?_
      refine lv_iload_n hx hb dX3_flowOf_30 rfl (lv_at hl 2 rfl) ?_
      refine wn_imul hx hb dX3_flowOf_31 ?_
      refine lv_iload hx hb dX3_flowOf_32 (lv_at hl 0 rfl) ?_
      refine wn_iadd hx hb dX3_flowOf_34 ?_
      refine lv_goto (tgt := 44) hx hb dX3_flowOf_35 (by decide) ?_
      refine lv_istore (lv' := [(5, .int (nI ((3 * ((k % 12) / 4)) + 2))), (4, .int (nI 2)), (3, .int (nI (k % 4))), (2, .int (nI ((k % 12) / 4))), (0, .ref (ad 0)), (1, .int (nI k))]) hx hb dX3_flowOf_44 hl (by decide) rfl (fun ls hl => ?_)
      refine lv_iload_n hx hb dX3_flowOf_46 rfl (lv_at hl 5 rfl) ?_
      refine lv_bipush (v := nI 12) hx hb dX3_flowOf_47 (by decide) ?_
      refine wn_icmp_ge (tgt := 65) hx hb dX3_flowOf_49 (by decide) (by omega) (by omega) (fun c12 => absurd c12 c2) (fun _ => ?_)
      refine lv_iload_n hx hb dX3_flowOf_52 rfl (lv_at hl 2 rfl) ?_
      refine lv_iconst (v := nI 3) hx hb dX3_flowOf_53 (by decide) ?_
      refine wn_icmp_ge (tgt := 61) hx hb dX3_flowOf_54 (by decide) (by omega) (by omega) (fun _ => ?_) (fun c13 => absurd c1 c13)
      refine lv_iconst (v := nI 1) hx hb dX3_flowOf_61 (by decide) ?_
      refine lv_goto (tgt := 75) hx hb dX3_flowOf_62 (by decide) ?_
      refine lv_istore (lv' := [(6, .int (nI 1)), (5, .int (nI ((3 * ((k % 12) / 4)) + 2))), (4, .int (nI 2)), (3, .int (nI (k % 4))), (2, .int (nI ((k % 12) / 4))), (0, .ref (ad 0)), (1, .int (nI k))]) hx hb dX3_flowOf_75 hl (by decide) rfl (fun ls hl => ?_)
      refine lv_aload_n hx hb dX3_flowOf_77 rfl (lv_at hl 5 rfl) ?_
      refine lv_iload hx hb dX3_flowOf_78 (lv_at hl 1 rfl) ?_
      refine vp_callSl (va_runV (As := [.int (nI ((3 * ((k % 12) / 4)) + 2))]) (rest := []) ⟨hx, hb, hml, hown, hts⟩ (c_X3_headAt l dd cy ad X u ((3 * ((k % 12) / 4)) + 2) (by first | omega | exact ot_lt (by first | omega | assumption) (by first | omega | assumption))) (cwV 1 hts gX3_flowOf_X3_headAt rfl rfl rfl hd_X3_headAt ⟨Nat.le_of_ble_eq_true rfl, Nat.le_of_ble_eq_true rfl⟩) (rdW_V hP hK (wM_0 cy ad u X) rfl) rfl rfl hl.1 rfl (lv_room (Nat.le_of_ble_eq_true rfl)) dX3_flowOf_80 ⟨Nat.le_of_ble_eq_true rfl, Nat.le_of_ble_eq_true rfl⟩).run (fun r14 hr14 => ?_)
      have hr14 : r14 = (hdM u ((3 * ((k % 12) / 4)) + 2)) := hr14
      subst hr14
      refine lv_topl (fun x15 ex15 => ?_)
      refine lv_lstore (lv' := [(7, .long x15), (6, .int (nI 1)), (5, .int (nI ((3 * ((k % 12) / 4)) + 2))), (4, .int (nI 2)), (3, .int (nI (k % 4))), (2, .int (nI ((k % 12) / 4))), (0, .ref (ad 0)), (1, .int (nI k))]) hx hb dX3_flowOf_83 hl (by decide) rfl (fun ls hl => ?_)
      refine lv_aload_n hx hb dX3_flowOf_85 rfl (lv_at hl 6 rfl) ?_
      refine lv_iload hx hb dX3_flowOf_86 (lv_at hl 2 rfl) ?_
      refine lv_iload hx hb dX3_flowOf_88 (lv_at hl 1 rfl) ?_
      refine vp_callSi (va_runS (As := [.int (nI ((3 * ((k % 12) / 4)) + 2)), .int (nI 1)]) (rest := [.ref (ad 0)]) ⟨hx, hb, hml, hown, hts⟩ (c_X3_otherOf l ((3 * ((k % 12) / 4)) + 2) 1 (by omega) (by omega)) (va_cwS 2 hts gX3_flowOf_X3_otherOf rfl rfl rfl hd_X3_otherOf ⟨Nat.le_of_ble_eq_true rfl, Nat.le_of_ble_eq_true rfl⟩) ⟨fun a U g mk q => q, fun U hU hW => ⟨rfl, trivial⟩⟩ rfl rfl hl.1 rfl (lv_room (Nat.le_of_ble_eq_true rfl)) dX3_flowOf_90 ⟨Nat.le_of_ble_eq_true rfl, Nat.le_of_ble_eq_true rfl⟩).run (fun r16 hr16 => ?_)
      have hr16 : r16 = (nI (ot ((3 * ((k % 12) / 4)) + 2) 1)) := hr16
      subst hr16
      have ho17 := ot_lt (c := (3 * ((k % 12) / 4)) + 2) (s := 1) (by omega) (by omega)
      refine vp_callSl (va_runV (As := [.int (nI (ot ((3 * ((k % 12) / 4)) + 2) 1))]) (rest := []) ⟨hx, hb, hml, hown, hts⟩ (c_X3_headAt l dd cy ad X u (ot ((3 * ((k % 12) / 4)) + 2) 1) (by first | omega | exact ot_lt (by first | omega | assumption) (by first | omega | assumption))) (cwV 1 hts gX3_flowOf_X3_headAt rfl rfl rfl hd_X3_headAt ⟨Nat.le_of_ble_eq_true rfl, Nat.le_of_ble_eq_true rfl⟩) (rdW_V hP hK (wM_0 cy ad u X) rfl) rfl rfl hl.1 rfl (lv_room (Nat.le_of_ble_eq_true rfl)) dX3_flowOf_93 ⟨Nat.le_of_ble_eq_true rfl, Nat.le_of_ble_eq_true rfl⟩).run (fun r18 hr18 => ?_)
      have hr18 : r18 = (hdM u (ot ((3 * ((k % 12) / 4)) + 2) 1)) := hr18
      subst hr18
      refine lv_topl (fun x19 ex19 => ?_)
      refine lv_lstore (lv' := [(9, .long x19), (7, .long x15), (6, .int (nI 1)), (5, .int (nI ((3 * ((k % 12) / 4)) + 2))), (4, .int (nI 2)), (3, .int (nI (k % 4))), (2, .int (nI ((k % 12) / 4))), (0, .ref (ad 0)), (1, .int (nI k))]) hx hb dX3_flowOf_96 hl (by decide) rfl (fun ls hl => ?_)
      refine lv_aload_n hx hb dX3_flowOf_98 rfl (lv_at hl 7 rfl) ?_
      refine va_get (D := dd) (ci := 5) (v := .ref (ad 1)) (C := RX3) (T := TX3) (N := 15) hx hb hts (fun _ h9 => List.mem_cons_of_mem _ (List.mem_append_left _ (List.mem_append_right _ h9))) hown hK hP 0 (wM_0 cy ad u X) rfl 0 (by decide) (hts (Cond.fieldLink RX3 7 "HeadGridModel" "now" "[I") (List.mem_of_getElem? (i := 1) rfl)) (fun _ h9 => h9) rfl dX3_flowOf_99 ?_
      refine lv_iconst (v := nI 0) hx hb dX3_flowOf_102 (by decide) ?_
      refine lv_iload_n hx hb dX3_flowOf_103 rfl (lv_at hl 8 rfl) ?_
      refine wn_iadd hx hb dX3_flowOf_104 ?_
      refine wa_iald hx hb hK hP (wM_1 cy ad u X) (t0 := 0) rfl (i := 0 + k) (by omega) (by decide) dX3_flowOf_105 ?_
      refine lv_i2l hx hb dX3_flowOf_106 rfl ?_
      refine lv_iload_n hx hb dX3_flowOf_107 rfl (lv_at hl 5 rfl) ?_
      refine lv_iconst (v := nI 3) hx hb dX3_flowOf_108 (by decide) ?_
      refine wn_icmp_ge (tgt := 120) hx hb dX3_flowOf_109 (by decide) (by omega) (by omega) (fun _ => ?_) (fun c20 => absurd c1 c20)
      refine lv_lload hx hb dX3_flowOf_120 (lv_at hl 1 rfl) ?_
      refine lv_lload hx hb dX3_flowOf_122 (lv_at hl 0 rfl) ?_
      refine lv_lsub hx hb dX3_flowOf_124 ?_
      refine lv_lmul hx hb dX3_flowOf_125 ?_
      exact W.lret (v := ((u.1 1 (0 + k)).toInt64 * (x15 - x19))) hx hb hr (fun t ht hW => ⟨((u.1 1 (0 + k)).toInt64 * (x15 - x19)), rfl, (by unfold flM; rw [ex15, ex19, show flC k = (3 * ((k % 12) / 4)) + 2 from by unfold flC; (repeat' split) <;> omega, show flS k = 1 from by unfold flS; (repeat' split) <;> omega, if_neg (by omega), Nat.zero_add]), ht⟩) (fun q hq => absurd hq List.not_mem_nil) dX3_flowOf_126
  · refine lv_iload_n hx hb dX3_flowOf_16 rfl (lv_at hl 0 rfl) ?_
    refine lv_goto (tgt := 21) hx hb dX3_flowOf_17 (by decide) ?_
    refine lv_istore (lv' := [(4, .int (nI (k % 4))), (3, .int (nI (k % 4))), (2, .int (nI ((k % 12) / 4))), (0, .ref (ad 0)), (1, .int (nI k))]) hx hb dX3_flowOf_21 hl (by decide) rfl (fun ls hl => ?_)
    refine lv_iload_n hx hb dX3_flowOf_23 rfl (lv_at hl 4 rfl) ?_
    refine lv_bipush (v := nI 12) hx hb dX3_flowOf_24 (by decide) ?_
    refine wn_icmp_ge (tgt := 38) hx hb dX3_flowOf_26 (by decide) (by omega) (by omega) (fun c21 => ?_) (fun c21 => ?_)
    · refine lv_iconst (v := nI 3) hx hb dX3_flowOf_38 (by decide) ?_
      refine lv_iload hx hb dX3_flowOf_39 (lv_at hl 0 rfl) ?_
      refine wn_imul hx hb dX3_flowOf_41 ?_
      refine lv_iload_n hx hb dX3_flowOf_42 rfl (lv_at hl 2 rfl) ?_
      refine wn_iadd hx hb dX3_flowOf_43 ?_
      refine lv_istore (lv' := [(5, .int (nI ((3 * (k % 4)) + ((k % 12) / 4)))), (4, .int (nI (k % 4))), (3, .int (nI (k % 4))), (2, .int (nI ((k % 12) / 4))), (0, .ref (ad 0)), (1, .int (nI k))]) hx hb dX3_flowOf_44 hl (by decide) rfl (fun ls hl => ?_)
      refine lv_iload_n hx hb dX3_flowOf_46 rfl (lv_at hl 5 rfl) ?_
      refine lv_bipush (v := nI 12) hx hb dX3_flowOf_47 (by decide) ?_
      refine wn_icmp_ge (tgt := 65) hx hb dX3_flowOf_49 (by decide) (by omega) (by omega) (fun _ => ?_) (fun c22 => absurd c21 c22)
      refine lv_iload_n hx hb dX3_flowOf_65 rfl (lv_at hl 2 rfl) ?_
      refine lv_iconst (v := nI 3) hx hb dX3_flowOf_66 (by decide) ?_
      refine wn_icmp_ge (tgt := 74) hx hb dX3_flowOf_67 (by decide) (by omega) (by omega) (fun c23 => absurd c23 c1) (fun _ => ?_)
      refine lv_iconst (v := nI 0) hx hb dX3_flowOf_70 (by decide) ?_
      refine lv_goto (tgt := 75) hx hb dX3_flowOf_71 (by decide) ?_
      refine lv_istore (lv' := [(6, .int (nI 0)), (5, .int (nI ((3 * (k % 4)) + ((k % 12) / 4)))), (4, .int (nI (k % 4))), (3, .int (nI (k % 4))), (2, .int (nI ((k % 12) / 4))), (0, .ref (ad 0)), (1, .int (nI k))]) hx hb dX3_flowOf_75 hl (by decide) rfl (fun ls hl => ?_)
      refine lv_aload_n hx hb dX3_flowOf_77 rfl (lv_at hl 5 rfl) ?_
      refine lv_iload hx hb dX3_flowOf_78 (lv_at hl 1 rfl) ?_
      refine vp_callSl (va_runV (As := [.int (nI ((3 * (k % 4)) + ((k % 12) / 4)))]) (rest := []) ⟨hx, hb, hml, hown, hts⟩ (c_X3_headAt l dd cy ad X u ((3 * (k % 4)) + ((k % 12) / 4)) (by first | omega | exact ot_lt (by first | omega | assumption) (by first | omega | assumption))) (cwV 1 hts gX3_flowOf_X3_headAt rfl rfl rfl hd_X3_headAt ⟨Nat.le_of_ble_eq_true rfl, Nat.le_of_ble_eq_true rfl⟩) (rdW_V hP hK (wM_0 cy ad u X) rfl) rfl rfl hl.1 rfl (lv_room (Nat.le_of_ble_eq_true rfl)) dX3_flowOf_80 ⟨Nat.le_of_ble_eq_true rfl, Nat.le_of_ble_eq_true rfl⟩).run (fun r24 hr24 => ?_)
      have hr24 : r24 = (hdM u ((3 * (k % 4)) + ((k % 12) / 4))) := hr24
      subst hr24
      refine lv_topl (fun x25 ex25 => ?_)
      refine lv_lstore (lv' := [(7, .long x25), (6, .int (nI 0)), (5, .int (nI ((3 * (k % 4)) + ((k % 12) / 4)))), (4, .int (nI (k % 4))), (3, .int (nI (k % 4))), (2, .int (nI ((k % 12) / 4))), (0, .ref (ad 0)), (1, .int (nI k))]) hx hb dX3_flowOf_83 hl (by decide) rfl (fun ls hl => ?_)
      refine lv_aload_n hx hb dX3_flowOf_85 rfl (lv_at hl 6 rfl) ?_
      refine lv_iload hx hb dX3_flowOf_86 (lv_at hl 2 rfl) ?_
      refine lv_iload hx hb dX3_flowOf_88 (lv_at hl 1 rfl) ?_
      refine vp_callSi (va_runS (As := [.int (nI ((3 * (k % 4)) + ((k % 12) / 4))), .int (nI 0)]) (rest := [.ref (ad 0)]) ⟨hx, hb, hml, hown, hts⟩ (c_X3_otherOf l ((3 * (k % 4)) + ((k % 12) / 4)) 0 (by omega) (by omega)) (va_cwS 2 hts gX3_flowOf_X3_otherOf rfl rfl rfl hd_X3_otherOf ⟨Nat.le_of_ble_eq_true rfl, Nat.le_of_ble_eq_true rfl⟩) ⟨fun a U g mk q => q, fun U hU hW => ⟨rfl, trivial⟩⟩ rfl rfl hl.1 rfl (lv_room (Nat.le_of_ble_eq_true rfl)) dX3_flowOf_90 ⟨Nat.le_of_ble_eq_true rfl, Nat.le_of_ble_eq_true rfl⟩).run (fun r26 hr26 => ?_)
      have hr26 : r26 = (nI (ot ((3 * (k % 4)) + ((k % 12) / 4)) 0)) := hr26
      subst hr26
      have ho27 := ot_lt (c := (3 * (k % 4)) + ((k % 12) / 4)) (s := 0) (by omega) (by omega)
      refine vp_callSl (va_runV (As := [.int (nI (ot ((3 * (k % 4)) + ((k % 12) / 4)) 0))]) (rest := []) ⟨hx, hb, hml, hown, hts⟩ (c_X3_headAt l dd cy ad X u (ot ((3 * (k % 4)) + ((k % 12) / 4)) 0) (by first | omega | exact ot_lt (by first | omega | assumption) (by first | omega | assumption))) (cwV 1 hts gX3_flowOf_X3_headAt rfl rfl rfl hd_X3_headAt ⟨Nat.le_of_ble_eq_true rfl, Nat.le_of_ble_eq_true rfl⟩) (rdW_V hP hK (wM_0 cy ad u X) rfl) rfl rfl hl.1 rfl (lv_room (Nat.le_of_ble_eq_true rfl)) dX3_flowOf_93 ⟨Nat.le_of_ble_eq_true rfl, Nat.le_of_ble_eq_true rfl⟩).run (fun r28 hr28 => ?_)
      have hr28 : r28 = (hdM u (ot ((3 * (k % 4)) + ((k % 12) / 4)) 0)) := hr28
      subst hr28
      refine lv_topl (fun x29 ex29 => ?_)
      refine lv_lstore (lv' := [(9, .long x29), (7, .long x25), (6, .int (nI 0)), (5, .int (nI ((3 * (k % 4)) + ((k % 12) / 4)))), (4, .int (nI (k % 4))), (3, .int (nI (k % 4))), (2, .int (nI ((k % 12) / 4))), (0, .ref (ad 0)), (1, .int (nI k))]) hx hb dX3_flowOf_96 hl (by decide) rfl (fun ls hl => ?_)
      refine lv_aload_n hx hb dX3_flowOf_98 rfl (lv_at hl 7 rfl) ?_
      refine va_get (D := dd) (ci := 5) (v := .ref (ad 1)) (C := RX3) (T := TX3) (N := 15) hx hb hts (fun _ h9 => List.mem_cons_of_mem _ (List.mem_append_left _ (List.mem_append_right _ h9))) hown hK hP 0 (wM_0 cy ad u X) rfl 0 (by decide) (hts (Cond.fieldLink RX3 7 "HeadGridModel" "now" "[I") (List.mem_of_getElem? (i := 1) rfl)) (fun _ h9 => h9) rfl dX3_flowOf_99 ?_
      refine lv_iconst (v := nI 0) hx hb dX3_flowOf_102 (by decide) ?_
      refine lv_iload_n hx hb dX3_flowOf_103 rfl (lv_at hl 8 rfl) ?_
      refine wn_iadd hx hb dX3_flowOf_104 ?_
      refine wa_iald hx hb hK hP (wM_1 cy ad u X) (t0 := 0) rfl (i := 0 + k) (by omega) (by decide) dX3_flowOf_105 ?_
      refine lv_i2l hx hb dX3_flowOf_106 rfl ?_
      refine lv_iload_n hx hb dX3_flowOf_107 rfl (lv_at hl 5 rfl) ?_
      refine lv_iconst (v := nI 3) hx hb dX3_flowOf_108 (by decide) ?_
      refine wn_icmp_ge (tgt := 120) hx hb dX3_flowOf_109 (by decide) (by omega) (by omega) (fun c30 => absurd c30 c1) (fun _ => ?_)
      refine lv_lload hx hb dX3_flowOf_112 (lv_at hl 0 rfl) ?_
      refine lv_lload hx hb dX3_flowOf_114 (lv_at hl 1 rfl) ?_
      refine lv_lsub hx hb dX3_flowOf_116 ?_
      refine lv_goto (tgt := 125) hx hb dX3_flowOf_117 (by decide) ?_
      refine lv_lmul hx hb dX3_flowOf_125 ?_
      exact W.lret (v := ((u.1 1 (0 + k)).toInt64 * (x29 - x25))) hx hb hr (fun t ht hW => ⟨((u.1 1 (0 + k)).toInt64 * (x29 - x25)), rfl, (by unfold flM; rw [ex25, ex29, show flC k = (3 * (k % 4)) + ((k % 12) / 4) from by unfold flC; (repeat' split) <;> omega, show flS k = 0 from by unfold flS; (repeat' split) <;> omega, if_pos (by omega), Nat.zero_add]), ht⟩) (fun q hq => absurd hq List.not_mem_nil) dX3_flowOf_126
    · refine lv_iconst (v := nI 3) hx hb dX3_flowOf_29 (by decide) ?_
      refine lv_iload_n hx hb dX3_flowOf_30 rfl (lv_at hl 2 rfl) ?_
      refine wn_imul hx hb dX3_flowOf_31 ?_
      refine lv_iload hx hb dX3_flowOf_32 (lv_at hl 0 rfl) ?_
      refine wn_iadd hx hb dX3_flowOf_34 ?_
      refine lv_goto (tgt := 44) hx hb dX3_flowOf_35 (by decide) ?_
      refine lv_istore (lv' := [(5, .int (nI ((3 * ((k % 12) / 4)) + (k % 4)))), (4, .int (nI (k % 4))), (3, .int (nI (k % 4))), (2, .int (nI ((k % 12) / 4))), (0, .ref (ad 0)), (1, .int (nI k))]) hx hb dX3_flowOf_44 hl (by decide) rfl (fun ls hl => ?_)
      refine lv_iload_n hx hb dX3_flowOf_46 rfl (lv_at hl 5 rfl) ?_
      refine lv_bipush (v := nI 12) hx hb dX3_flowOf_47 (by decide) ?_
      refine wn_icmp_ge (tgt := 65) hx hb dX3_flowOf_49 (by decide) (by omega) (by omega) (fun c31 => absurd c31 c21) (fun _ => ?_)
      refine lv_iload_n hx hb dX3_flowOf_52 rfl (lv_at hl 2 rfl) ?_
      refine lv_iconst (v := nI 3) hx hb dX3_flowOf_53 (by decide) ?_
      refine wn_icmp_ge (tgt := 61) hx hb dX3_flowOf_54 (by decide) (by omega) (by omega) (fun c32 => absurd c32 c1) (fun _ => ?_)
      refine lv_iconst (v := nI 3) hx hb dX3_flowOf_57 (by decide) ?_
      refine lv_goto (tgt := 75) hx hb dX3_flowOf_58 (by decide) ?_
      refine lv_istore (lv' := [(6, .int (nI 3)), (5, .int (nI ((3 * ((k % 12) / 4)) + (k % 4)))), (4, .int (nI (k % 4))), (3, .int (nI (k % 4))), (2, .int (nI ((k % 12) / 4))), (0, .ref (ad 0)), (1, .int (nI k))]) hx hb dX3_flowOf_75 hl (by decide) rfl (fun ls hl => ?_)
      refine lv_aload_n hx hb dX3_flowOf_77 rfl (lv_at hl 5 rfl) ?_
      refine lv_iload hx hb dX3_flowOf_78 (lv_at hl 1 rfl) ?_
      refine vp_callSl (va_runV (As := [.int (nI ((3 * ((k % 12) / 4)) + (k % 4)))]) (rest := []) ⟨hx, hb, hml, hown, hts⟩ (c_X3_headAt l dd cy ad X u ((3 * ((k % 12) / 4)) + (k % 4)) (by first | omega | exact ot_lt (by first | omega | assumption) (by first | omega | assumption))) (cwV 1 hts gX3_flowOf_X3_headAt rfl rfl rfl hd_X3_headAt ⟨Nat.le_of_ble_eq_true rfl, Nat.le_of_ble_eq_true rfl⟩) (rdW_V hP hK (wM_0 cy ad u X) rfl) rfl rfl hl.1 rfl (lv_room (Nat.le_of_ble_eq_true rfl)) dX3_flowOf_80 ⟨Nat.le_of_ble_eq_true rfl, Nat.le_of_ble_eq_true rfl⟩).run (fun r33 hr33 => ?_)
      have hr33 : r33 = (hdM u ((3 * ((k % 12) / 4)) + (k % 4))) := hr33
      subst hr33
      refine lv_topl (fun x34 ex34 => ?_)
      refine lv_lstore (lv' := [(7, .long x34), (6, .int (nI 3)), (5, .int (nI ((3 * ((k % 12) / 4)) + (k % 4)))), (4, .int (nI (k % 4))), (3, .int (nI (k % 4))), (2, .int (nI ((k % 12) / 4))), (0, .ref (ad 0)), (1, .int (nI k))]) hx hb dX3_flowOf_83 hl (by decide) rfl (fun ls hl => ?_)
      refine lv_aload_n hx hb dX3_flowOf_85 rfl (lv_at hl 6 rfl) ?_
      refine lv_iload hx hb dX3_flowOf_86 (lv_at hl 2 rfl) ?_
      refine lv_iload hx hb dX3_flowOf_88 (lv_at hl 1 rfl) ?_
      refine vp_callSi (va_runS (As := [.int (nI ((3 * ((k % 12) / 4)) + (k % 4))), .int (nI 3)]) (rest := [.ref (ad 0)]) ⟨hx, hb, hml, hown, hts⟩ (c_X3_otherOf l ((3 * ((k % 12) / 4)) + (k % 4)) 3 (by omega) (by omega)) (va_cwS 2 hts gX3_flowOf_X3_otherOf rfl rfl rfl hd_X3_otherOf ⟨Nat.le_of_ble_eq_true rfl, Nat.le_of_ble_eq_true rfl⟩) ⟨fun a U g mk q => q, fun U hU hW => ⟨rfl, trivial⟩⟩ rfl rfl hl.1 rfl (lv_room (Nat.le_of_ble_eq_true rfl)) dX3_flowOf_90 ⟨Nat.le_of_ble_eq_true rfl, Nat.le_of_ble_eq_true rfl⟩).run (fun r35 hr35 => ?_)
      have hr35 : r35 = (nI (ot ((3 * ((k % 12) / 4)) + (k % 4)) 3)) := hr35
      subst hr35
      have ho36 := ot_lt (c := (3 * ((k % 12) / 4)) + (k % 4)) (s := 3) (by omega) (by omega)
      refine vp_callSl (va_runV (As := [.int (nI (ot ((3 * ((k % 12) / 4)) + (k % 4)) 3))]) (rest := []) ⟨hx, hb, hml, hown, hts⟩ (c_X3_headAt l dd cy ad X u (ot ((3 * ((k % 12) / 4)) + (k % 4)) 3) (by first | omega | exact ot_lt (by first | omega | assumption) (by first | omega | assumption))) (cwV 1 hts gX3_flowOf_X3_headAt rfl rfl rfl hd_X3_headAt ⟨Nat.le_of_ble_eq_true rfl, Nat.le_of_ble_eq_true rfl⟩) (rdW_V hP hK (wM_0 cy ad u X) rfl) rfl rfl hl.1 rfl (lv_room (Nat.le_of_ble_eq_true rfl)) dX3_flowOf_93 ⟨Nat.le_of_ble_eq_true rfl, Nat.le_of_ble_eq_true rfl⟩).run (fun r37 hr37 => ?_)
      have hr37 : r37 = (hdM u (ot ((3 * ((k % 12) / 4)) + (k % 4)) 3)) := hr37
      subst hr37
      refine lv_topl (fun x38 ex38 => ?_)
      refine lv_lstore (lv' := [(9, .long x38), (7, .long x34), (6, .int (nI 3)), (5, .int (nI ((3 * ((k % 12) / 4)) + (k % 4)))), (4, .int (nI (k % 4))), (3, .int (nI (k % 4))), (2, .int (nI ((k % 12) / 4))), (0, .ref (ad 0)), (1, .int (nI k))]) hx hb dX3_flowOf_96 hl (by decide) rfl (fun ls hl => ?_)
      refine lv_aload_n hx hb dX3_flowOf_98 rfl (lv_at hl 7 rfl) ?_
      refine va_get (D := dd) (ci := 5) (v := .ref (ad 1)) (C := RX3) (T := TX3) (N := 15) hx hb hts (fun _ h9 => List.mem_cons_of_mem _ (List.mem_append_left _ (List.mem_append_right _ h9))) hown hK hP 0 (wM_0 cy ad u X) rfl 0 (by decide) (hts (Cond.fieldLink RX3 7 "HeadGridModel" "now" "[I") (List.mem_of_getElem? (i := 1) rfl)) (fun _ h9 => h9) rfl dX3_flowOf_99 ?_
      refine lv_iconst (v := nI 0) hx hb dX3_flowOf_102 (by decide) ?_
      refine lv_iload_n hx hb dX3_flowOf_103 rfl (lv_at hl 8 rfl) ?_
      refine wn_iadd hx hb dX3_flowOf_104 ?_
      refine wa_iald hx hb hK hP (wM_1 cy ad u X) (t0 := 0) rfl (i := 0 + k) (by omega) (by decide) dX3_flowOf_105 ?_
      refine lv_i2l hx hb dX3_flowOf_106 rfl ?_
      refine lv_iload_n hx hb dX3_flowOf_107 rfl (lv_at hl 5 rfl) ?_
      refine lv_iconst (v := nI 3) hx hb dX3_flowOf_108 (by decide) ?_
      refine wn_icmp_ge (tgt := 120) hx hb dX3_flowOf_109 (by decide) (by omega) (by omega) (fun c39 => absurd c39 c1) (fun _ => ?_)
      refine lv_lload hx hb dX3_flowOf_112 (lv_at hl 0 rfl) ?_
      refine lv_lload hx hb dX3_flowOf_114 (lv_at hl 1 rfl) ?_
      refine lv_lsub hx hb dX3_flowOf_116 ?_
      refine lv_goto (tgt := 125) hx hb dX3_flowOf_117 (by decide) ?_
      refine lv_lmul hx hb dX3_flowOf_125 ?_
      exact W.lret (v := ((u.1 1 (0 + k)).toInt64 * (x38 - x34))) hx hb hr (fun t ht hW => ⟨((u.1 1 (0 + k)).toInt64 * (x38 - x34)), rfl, (by unfold flM; rw [ex34, ex38, show flC k = (3 * ((k % 12) / 4)) + (k % 4) from by unfold flC; (repeat' split) <;> omega, show flS k = 3 from by unfold flS; (repeat' split) <;> omega, if_pos (by omega), Nat.zero_add]), ht⟩) (fun q hq => absurd hq List.not_mem_nil) dX3_flowOf_126
theorem hd_X3_inflowOf : yX3_inflowOf.cls = RX3 ∧ yX3_inflowOf.cls ≠ "java/lang/invoke/MethodHandle" ∧ yX3_inflowOf.cls ≠ "java/lang/invoke/VarHandle" ∧ (parseMethodDescriptor yX3_inflowOf.desc).map (fun d => d.parameters.length) = some 1 := by decide +kernel
set_option maxHeartbeats 4000000 in
set_option maxRecDepth 100000 in
/-- inflowOf(side) -/
theorem c_X3_inflowOf (l : Launch) (dd : va_G) (cy : Nat → ClassId) (ad : Nat → Nat) (X : va_W) (u : MS) (d : Nat) (hd : d < 4) : Met l yX3_inflowOf wsX3_inflowOf ({ frames := 2, cells := 0, slots := 0, locals := 45 }) (va_Pc [.ref (ad 0), .int (nI d)] (rdW dd cy (wM cy ad u ++ X))) (vp_Sl (fun r => r = ifM u d)) 0 0 (fun _ => False) := by
  refine Met.ofW (cc := cX3_inflowOf) (maxL := 6) (ret := (some .long)) (by decide) rfl ?_
  intro p e s m args below meth c s₁ B hml hv
  obtain ⟨rfl, hP, hK⟩ := hv
  have hx := B.exec
  have hb := B.bytes
  have hr := B.returns
  have hts := atoms_spec (ws := wsX3_inflowOf) B.pre
  have hown : s.vm.findClass RX3 = some m.cls := findClass_of_methodNamed B.named
  have hlocks := B.notSynchronized
  have hl := lv_entry ([.ref (ad 0), .int (nI d)]) (n := 6) (Nat.le_of_ble_eq_true rfl)
  rw [lg_entry_eq]
  generalize (lg_sl ([.ref (ad 0), .int (nI d)]) ++ List.replicate (6 - (lg_sl ([.ref (ad 0), .int (nI d)])).length) Slot.unset).toArray = ls at hl ⊢
  have hl : lv_has ls 6 [(0, .ref (ad 0)), (1, .int (nI d))] := hl
  refine lv_lconst (v := 0) hx hb dX3_inflowOf_0 rfl ?_
  refine lv_lstore_n (lv' := [(2, .long 0), (0, .ref (ad 0)), (1, .int (nI d))]) hx hb dX3_inflowOf_1 rfl hl (by decide) rfl (fun ls hl => ?_)
  refine lv_iconst (v := nI 0) hx hb dX3_inflowOf_2 (by decide) ?_
  refine lv_istore (lv' := [(4, .int (nI 0)), (2, .long 0), (0, .ref (ad 0)), (1, .int (nI d))]) hx hb dX3_inflowOf_3 hl (by decide) rfl (fun ls hl => ?_)
  refine wLoopR (σ := Nat × Int64) (fun k x ls => k = 3 - x.1 ∧ (x.1 ≤ 3) ∧ (x.2 = smL x.1 (fun i9 => (u.1 1 (lk (ifC d i9) d)).toInt64 * (hdM u (ot (ifC d i9) d) - u.2.2.1 9 (ifC d i9)))) ∧ lv_has ls 6 [(4, .int (nI x.1)), (2, .long x.2), (1, .int (nI d)), (0, .ref (ad 0))]) ?_ _ (0, 0) _ ⟨rfl, (by omega), rfl, lv_sub hl [0, 1, 3, 2] rfl⟩
  intro k x ls hI ih
  obtain ⟨j, z⟩ := x
  obtain ⟨hk, hj, hz, hl⟩ := hI
  have hk : k = 3 - j := hk
  have hj : j ≤ 3 := hj
  have hz : z = smL j (fun i9 => (u.1 1 (lk (ifC d i9) d)).toInt64 * (hdM u (ot (ifC d i9) d) - u.2.2.1 9 (ifC d i9))) := hz
  have hl : lv_has ls 6 [(4, .int (nI j)), (2, .long z), (1, .int (nI d)), (0, .ref (ad 0))] := hl
  refine lv_iload hx hb dX3_inflowOf_5 (lv_at hl 0 rfl) ?_
  refine lv_iconst (v := nI 3) hx hb dX3_inflowOf_7 (by decide) ?_
  refine wn_icmp_ge (tgt := 89) hx hb dX3_inflowOf_8 (by decide) (by omega) (by omega) (fun c1 => ?_) (fun c1 => ?_)
  · refine lv_lload_n hx hb dX3_inflowOf_89 rfl (lv_at hl 1 rfl) ?_
    exact W.lret (v := z) hx hb hr (fun t ht hW => ⟨z, rfl, (by rw [hz, show j = 3 by omega]; rfl), ht⟩) (fun q hq => absurd hq List.not_mem_nil) dX3_inflowOf_90
  · refine lv_iload_n hx hb dX3_inflowOf_11 rfl (lv_at hl 2 rfl) ?_
    refine wn_if_ne (tgt := 20) hx hb dX3_inflowOf_12 (by decide) (by omega) (fun c2 => ?_) (fun c2 => ?_)
    · refine lv_iload_n hx hb dX3_inflowOf_20 rfl (lv_at hl 2 rfl) ?_
      refine lv_iconst (v := nI 1) hx hb dX3_inflowOf_21 (by decide) ?_
      refine wn_icmp_ne (tgt := 34) hx hb dX3_inflowOf_22 (by decide) (by omega) (by omega) (fun c3 => ?_) (fun c3 => ?_)
      · refine lv_iload_n hx hb dX3_inflowOf_34 rfl (lv_at hl 2 rfl) ?_
        refine lv_iconst (v := nI 2) hx hb dX3_inflowOf_35 (by decide) ?_
        refine wn_icmp_ne (tgt := 47) hx hb dX3_inflowOf_36 (by decide) (by omega) (by omega) (fun c4 => ?_) (fun c4 => ?_)
        · refine lv_iconst (v := nI 3) hx hb dX3_inflowOf_47 (by decide) ?_
          refine lv_iload hx hb dX3_inflowOf_48 (lv_at hl 0 rfl) ?_
          refine wn_imul hx hb dX3_inflowOf_50 ?_
          refine lv_istore (lv' := [(5, .int (nI (3 * j))), (4, .int (nI j)), (2, .long z), (1, .int (nI d)), (0, .ref (ad 0))]) hx hb dX3_inflowOf_51 hl (by decide) rfl (fun ls hl => ?_)
          refine lv_lload_n hx hb dX3_inflowOf_53 rfl (lv_at hl 2 rfl) ?_
          refine lv_aload_n hx hb dX3_inflowOf_54 rfl (lv_at hl 4 rfl) ?_
          refine lv_iload hx hb dX3_inflowOf_55 (lv_at hl 0 rfl) ?_
          refine lv_iload_n hx hb dX3_inflowOf_57 rfl (lv_at hl 3 rfl) ?_
          refine vp_callSi (va_runV (As := [.int (nI (3 * j)), .int (nI d)]) (rest := [.long z]) ⟨hx, hb, hml, hown, hts⟩ (c_X3_conductanceOf l dd cy ad X u (3 * j) d (by omega) (by omega)) (cwV 2 hts gX3_inflowOf_X3_conductanceOf rfl rfl rfl hd_X3_conductanceOf ⟨Nat.le_of_ble_eq_true rfl, Nat.le_of_ble_eq_true rfl⟩) (rdW_V hP hK (wM_0 cy ad u X) rfl) rfl rfl hl.1 rfl (lv_room (Nat.le_of_ble_eq_true rfl)) dX3_inflowOf_58 ⟨Nat.le_of_ble_eq_true rfl, Nat.le_of_ble_eq_true rfl⟩).run (fun r5 hr5 => ?_)
          have hr5 : r5 = (u.1 1 (lk (3 * j) d)) := hr5
          subst hr5
          refine lv_i2l hx hb dX3_inflowOf_61 rfl ?_
          refine lv_aload_n hx hb dX3_inflowOf_62 rfl (lv_at hl 4 rfl) ?_
          refine lv_iload hx hb dX3_inflowOf_63 (lv_at hl 0 rfl) ?_
          refine lv_iload_n hx hb dX3_inflowOf_65 rfl (lv_at hl 3 rfl) ?_
          refine vp_callSi (va_runS (As := [.int (nI (3 * j)), .int (nI d)]) (rest := [.ref (ad 0), .long ((u.1 1 (lk (3 * j) d)).toInt64), .long z]) ⟨hx, hb, hml, hown, hts⟩ (c_X3_otherOf l (3 * j) d (by omega) (by omega)) (va_cwS 2 hts gX3_inflowOf_X3_otherOf rfl rfl rfl hd_X3_otherOf ⟨Nat.le_of_ble_eq_true rfl, Nat.le_of_ble_eq_true rfl⟩) ⟨fun a U g mk q => q, fun U hU hW => ⟨rfl, trivial⟩⟩ rfl rfl hl.1 rfl (lv_room (Nat.le_of_ble_eq_true rfl)) dX3_inflowOf_66 ⟨Nat.le_of_ble_eq_true rfl, Nat.le_of_ble_eq_true rfl⟩).run (fun r6 hr6 => ?_)
          have hr6 : r6 = (nI (ot (3 * j) d)) := hr6
          subst hr6
          have ho7 := ot_lt (c := 3 * j) (s := d) (by omega) (by omega)
          refine vp_callSl (va_runV (As := [.int (nI (ot (3 * j) d))]) (rest := [.long ((u.1 1 (lk (3 * j) d)).toInt64), .long z]) ⟨hx, hb, hml, hown, hts⟩ (c_X3_headAt l dd cy ad X u (ot (3 * j) d) (by first | omega | exact ot_lt (by first | omega | assumption) (by first | omega | assumption))) (cwV 1 hts gX3_inflowOf_X3_headAt rfl rfl rfl hd_X3_headAt ⟨Nat.le_of_ble_eq_true rfl, Nat.le_of_ble_eq_true rfl⟩) (rdW_V hP hK (wM_0 cy ad u X) rfl) rfl rfl hl.1 rfl (lv_room (Nat.le_of_ble_eq_true rfl)) dX3_inflowOf_69 ⟨Nat.le_of_ble_eq_true rfl, Nat.le_of_ble_eq_true rfl⟩).run (fun r8 hr8 => ?_)
          have hr8 : r8 = (hdM u (ot (3 * j) d)) := hr8
          subst hr8
          refine lv_aload_n hx hb dX3_inflowOf_72 rfl (lv_at hl 4 rfl) ?_
          refine va_get (D := dd) (ci := 5) (v := .ref (ad 9)) (C := RX3) (T := TX3) (N := 15) hx hb hts (fun _ h9 => List.mem_cons_of_mem _ (List.mem_append_left _ (List.mem_append_right _ h9))) hown hK hP 0 (wM_0 cy ad u X) rfl 11 (by decide) (hts (Cond.fieldLink RX3 36 "HeadGridModel" "heads" "[J") (List.mem_of_getElem? (i := 1) rfl)) (fun _ h9 => h9) rfl dX3_inflowOf_73 ?_
          refine lv_iload hx hb dX3_inflowOf_76 (lv_at hl 0 rfl) ?_
          refine wa_lald hx hb hK hP (wM_9 cy ad u X) (t0 := 1) rfl (i := 3 * j) (by omega) (by decide) dX3_inflowOf_78 ?_
          refine lv_lsub hx hb dX3_inflowOf_79 ?_
          refine lv_lmul hx hb dX3_inflowOf_80 ?_
          refine lv_ladd hx hb dX3_inflowOf_81 ?_
          refine lv_topl (fun x9 ex9 => ?_)
          refine lv_lstore_n (lv' := [(2, .long x9), (5, .int (nI (3 * j))), (4, .int (nI j)), (1, .int (nI d)), (0, .ref (ad 0))]) hx hb dX3_inflowOf_82 rfl hl (by decide) rfl (fun ls hl => ?_)
          refine lv_iinc (v := (nI (j + 1))) (lv' := [(4, .int (nI (j + 1))), (2, .long x9), (5, .int (nI (3 * j))), (1, .int (nI d)), (0, .ref (ad 0))]) hx hb dX3_inflowOf_83 hl (k := 2) rfl (nI_1 _) (by decide) rfl (fun ls hl => ?_)
          refine lv_goto (tgt := 5) hx hb dX3_inflowOf_86 (by decide) ?_
          exact ih (3 - (j + 1)) (j + 1, x9) ls (by omega) ⟨rfl, (by omega), (by rw [ex9, hz, smL]; simp only [show ifC d j = 3 * j from by unfold ifC; (repeat' split) <;> omega]), lv_sub hl [0, 1, 3, 4] rfl⟩
        · refine lv_bipush (v := nI 6) hx hb dX3_inflowOf_39 (by decide) ?_
          refine lv_iload hx hb dX3_inflowOf_41 (lv_at hl 0 rfl) ?_
          refine wn_iadd hx hb dX3_inflowOf_43 ?_
          refine lv_goto (tgt := 51) hx hb dX3_inflowOf_44 (by decide) ?_
          refine lv_istore (lv' := [(5, .int (nI (6 + j))), (4, .int (nI j)), (2, .long z), (1, .int (nI d)), (0, .ref (ad 0))]) hx hb dX3_inflowOf_51 hl (by decide) rfl (fun ls hl => ?_)
          refine lv_lload_n hx hb dX3_inflowOf_53 rfl (lv_at hl 2 rfl) ?_
          refine lv_aload_n hx hb dX3_inflowOf_54 rfl (lv_at hl 4 rfl) ?_
          refine lv_iload hx hb dX3_inflowOf_55 (lv_at hl 0 rfl) ?_
          refine lv_iload_n hx hb dX3_inflowOf_57 rfl (lv_at hl 3 rfl) ?_
          refine vp_callSi (va_runV (As := [.int (nI (6 + j)), .int (nI d)]) (rest := [.long z]) ⟨hx, hb, hml, hown, hts⟩ (c_X3_conductanceOf l dd cy ad X u (6 + j) d (by omega) (by omega)) (cwV 2 hts gX3_inflowOf_X3_conductanceOf rfl rfl rfl hd_X3_conductanceOf ⟨Nat.le_of_ble_eq_true rfl, Nat.le_of_ble_eq_true rfl⟩) (rdW_V hP hK (wM_0 cy ad u X) rfl) rfl rfl hl.1 rfl (lv_room (Nat.le_of_ble_eq_true rfl)) dX3_inflowOf_58 ⟨Nat.le_of_ble_eq_true rfl, Nat.le_of_ble_eq_true rfl⟩).run (fun r10 hr10 => ?_)
          have hr10 : r10 = (u.1 1 (lk (6 + j) d)) := hr10
          subst hr10
          refine lv_i2l hx hb dX3_inflowOf_61 rfl ?_
          refine lv_aload_n hx hb dX3_inflowOf_62 rfl (lv_at hl 4 rfl) ?_
          refine lv_iload hx hb dX3_inflowOf_63 (lv_at hl 0 rfl) ?_
          refine lv_iload_n hx hb dX3_inflowOf_65 rfl (lv_at hl 3 rfl) ?_
          refine vp_callSi (va_runS (As := [.int (nI (6 + j)), .int (nI d)]) (rest := [.ref (ad 0), .long ((u.1 1 (lk (6 + j) d)).toInt64), .long z]) ⟨hx, hb, hml, hown, hts⟩ (c_X3_otherOf l (6 + j) d (by omega) (by omega)) (va_cwS 2 hts gX3_inflowOf_X3_otherOf rfl rfl rfl hd_X3_otherOf ⟨Nat.le_of_ble_eq_true rfl, Nat.le_of_ble_eq_true rfl⟩) ⟨fun a U g mk q => q, fun U hU hW => ⟨rfl, trivial⟩⟩ rfl rfl hl.1 rfl (lv_room (Nat.le_of_ble_eq_true rfl)) dX3_inflowOf_66 ⟨Nat.le_of_ble_eq_true rfl, Nat.le_of_ble_eq_true rfl⟩).run (fun r11 hr11 => ?_)
          have hr11 : r11 = (nI (ot (6 + j) d)) := hr11
          subst hr11
          have ho12 := ot_lt (c := 6 + j) (s := d) (by omega) (by omega)
          refine vp_callSl (va_runV (As := [.int (nI (ot (6 + j) d))]) (rest := [.long ((u.1 1 (lk (6 + j) d)).toInt64), .long z]) ⟨hx, hb, hml, hown, hts⟩ (c_X3_headAt l dd cy ad X u (ot (6 + j) d) (by first | omega | exact ot_lt (by first | omega | assumption) (by first | omega | assumption))) (cwV 1 hts gX3_inflowOf_X3_headAt rfl rfl rfl hd_X3_headAt ⟨Nat.le_of_ble_eq_true rfl, Nat.le_of_ble_eq_true rfl⟩) (rdW_V hP hK (wM_0 cy ad u X) rfl) rfl rfl hl.1 rfl (lv_room (Nat.le_of_ble_eq_true rfl)) dX3_inflowOf_69 ⟨Nat.le_of_ble_eq_true rfl, Nat.le_of_ble_eq_true rfl⟩).run (fun r13 hr13 => ?_)
          have hr13 : r13 = (hdM u (ot (6 + j) d)) := hr13
          subst hr13
          refine lv_aload_n hx hb dX3_inflowOf_72 rfl (lv_at hl 4 rfl) ?_
          refine va_get (D := dd) (ci := 5) (v := .ref (ad 9)) (C := RX3) (T := TX3) (N := 15) hx hb hts (fun _ h9 => List.mem_cons_of_mem _ (List.mem_append_left _ (List.mem_append_right _ h9))) hown hK hP 0 (wM_0 cy ad u X) rfl 11 (by decide) (hts (Cond.fieldLink RX3 36 "HeadGridModel" "heads" "[J") (List.mem_of_getElem? (i := 1) rfl)) (fun _ h9 => h9) rfl dX3_inflowOf_73 ?_
          refine lv_iload hx hb dX3_inflowOf_76 (lv_at hl 0 rfl) ?_
          refine wa_lald hx hb hK hP (wM_9 cy ad u X) (t0 := 1) rfl (i := 6 + j) (by omega) (by decide) dX3_inflowOf_78 ?_
          refine lv_lsub hx hb dX3_inflowOf_79 ?_
          refine lv_lmul hx hb dX3_inflowOf_80 ?_
          refine lv_ladd hx hb dX3_inflowOf_81 ?_
          refine lv_topl (fun x14 ex14 => ?_)
          refine lv_lstore_n (lv' := [(2, .long x14), (5, .int (nI (6 + j))), (4, .int (nI j)), (1, .int (nI d)), (0, .ref (ad 0))]) hx hb dX3_inflowOf_82 rfl hl (by decide) rfl (fun ls hl => ?_)
          refine lv_iinc (v := (nI (j + 1))) (lv' := [(4, .int (nI (j + 1))), (2, .long x14), (5, .int (nI (6 + j))), (1, .int (nI d)), (0, .ref (ad 0))]) hx hb dX3_inflowOf_83 hl (k := 2) rfl (nI_1 _) (by decide) rfl (fun ls hl => ?_)
          refine lv_goto (tgt := 5) hx hb dX3_inflowOf_86 (by decide) ?_
          exact ih (3 - (j + 1)) (j + 1, x14) ls (by omega) ⟨rfl, (by omega), (by rw [ex14, hz, smL]; simp only [show ifC d j = 6 + j from by unfold ifC; (repeat' split) <;> omega]), lv_sub hl [0, 1, 3, 4] rfl⟩
      · refine lv_iconst (v := nI 3) hx hb dX3_inflowOf_25 (by decide) ?_
        refine lv_iload hx hb dX3_inflowOf_26 (lv_at hl 0 rfl) ?_
        refine wn_imul hx hb dX3_inflowOf_28 ?_
        refine lv_iconst (v := nI 2) hx hb dX3_inflowOf_29 (by decide) ?_
        refine wn_iadd hx hb dX3_inflowOf_30 ?_
        refine lv_goto (tgt := 51) hx hb dX3_inflowOf_31 (by decide) ?_
        refine lv_istore (lv' := [(5, .int (nI ((3 * j) + 2))), (4, .int (nI j)), (2, .long z), (1, .int (nI d)), (0, .ref (ad 0))]) hx hb dX3_inflowOf_51 hl (by decide) rfl (fun ls hl => ?_)
        refine lv_lload_n hx hb dX3_inflowOf_53 rfl (lv_at hl 2 rfl) ?_
        refine lv_aload_n hx hb dX3_inflowOf_54 rfl (lv_at hl 4 rfl) ?_
        refine lv_iload hx hb dX3_inflowOf_55 (lv_at hl 0 rfl) ?_
        refine lv_iload_n hx hb dX3_inflowOf_57 rfl (lv_at hl 3 rfl) ?_
        refine vp_callSi (va_runV (As := [.int (nI ((3 * j) + 2)), .int (nI d)]) (rest := [.long z]) ⟨hx, hb, hml, hown, hts⟩ (c_X3_conductanceOf l dd cy ad X u ((3 * j) + 2) d (by omega) (by omega)) (cwV 2 hts gX3_inflowOf_X3_conductanceOf rfl rfl rfl hd_X3_conductanceOf ⟨Nat.le_of_ble_eq_true rfl, Nat.le_of_ble_eq_true rfl⟩) (rdW_V hP hK (wM_0 cy ad u X) rfl) rfl rfl hl.1 rfl (lv_room (Nat.le_of_ble_eq_true rfl)) dX3_inflowOf_58 ⟨Nat.le_of_ble_eq_true rfl, Nat.le_of_ble_eq_true rfl⟩).run (fun r15 hr15 => ?_)
        have hr15 : r15 = (u.1 1 (lk ((3 * j) + 2) d)) := hr15
        subst hr15
        refine lv_i2l hx hb dX3_inflowOf_61 rfl ?_
        refine lv_aload_n hx hb dX3_inflowOf_62 rfl (lv_at hl 4 rfl) ?_
        refine lv_iload hx hb dX3_inflowOf_63 (lv_at hl 0 rfl) ?_
        refine lv_iload_n hx hb dX3_inflowOf_65 rfl (lv_at hl 3 rfl) ?_
        refine vp_callSi (va_runS (As := [.int (nI ((3 * j) + 2)), .int (nI d)]) (rest := [.ref (ad 0), .long ((u.1 1 (lk ((3 * j) + 2) d)).toInt64), .long z]) ⟨hx, hb, hml, hown, hts⟩ (c_X3_otherOf l ((3 * j) + 2) d (by omega) (by omega)) (va_cwS 2 hts gX3_inflowOf_X3_otherOf rfl rfl rfl hd_X3_otherOf ⟨Nat.le_of_ble_eq_true rfl, Nat.le_of_ble_eq_true rfl⟩) ⟨fun a U g mk q => q, fun U hU hW => ⟨rfl, trivial⟩⟩ rfl rfl hl.1 rfl (lv_room (Nat.le_of_ble_eq_true rfl)) dX3_inflowOf_66 ⟨Nat.le_of_ble_eq_true rfl, Nat.le_of_ble_eq_true rfl⟩).run (fun r16 hr16 => ?_)
        have hr16 : r16 = (nI (ot ((3 * j) + 2) d)) := hr16
        subst hr16
        have ho17 := ot_lt (c := (3 * j) + 2) (s := d) (by omega) (by omega)
        refine vp_callSl (va_runV (As := [.int (nI (ot ((3 * j) + 2) d))]) (rest := [.long ((u.1 1 (lk ((3 * j) + 2) d)).toInt64), .long z]) ⟨hx, hb, hml, hown, hts⟩ (c_X3_headAt l dd cy ad X u (ot ((3 * j) + 2) d) (by first | omega | exact ot_lt (by first | omega | assumption) (by first | omega | assumption))) (cwV 1 hts gX3_inflowOf_X3_headAt rfl rfl rfl hd_X3_headAt ⟨Nat.le_of_ble_eq_true rfl, Nat.le_of_ble_eq_true rfl⟩) (rdW_V hP hK (wM_0 cy ad u X) rfl) rfl rfl hl.1 rfl (lv_room (Nat.le_of_ble_eq_true rfl)) dX3_inflowOf_69 ⟨Nat.le_of_ble_eq_true rfl, Nat.le_of_ble_eq_true rfl⟩).run (fun r18 hr18 => ?_)
        have hr18 : r18 = (hdM u (ot ((3 * j) + 2) d)) := hr18
        subst hr18
        refine lv_aload_n hx hb dX3_inflowOf_72 rfl (lv_at hl 4 rfl) ?_
        refine va_get (D := dd) (ci := 5) (v := .ref (ad 9)) (C := RX3) (T := TX3) (N := 15) hx hb hts (fun _ h9 => List.mem_cons_of_mem _ (List.mem_append_left _ (List.mem_append_right _ h9))) hown hK hP 0 (wM_0 cy ad u X) rfl 11 (by decide) (hts (Cond.fieldLink RX3 36 "HeadGridModel" "heads" "[J") (List.mem_of_getElem? (i := 1) rfl)) (fun _ h9 => h9) rfl dX3_inflowOf_73 ?_
        refine lv_iload hx hb dX3_inflowOf_76 (lv_at hl 0 rfl) ?_
        refine wa_lald hx hb hK hP (wM_9 cy ad u X) (t0 := 1) rfl (i := (3 * j) + 2) (by omega) (by decide) dX3_inflowOf_78 ?_
        refine lv_lsub hx hb dX3_inflowOf_79 ?_
        refine lv_lmul hx hb dX3_inflowOf_80 ?_
        refine lv_ladd hx hb dX3_inflowOf_81 ?_
        refine lv_topl (fun x19 ex19 => ?_)
        refine lv_lstore_n (lv' := [(2, .long x19), (5, .int (nI ((3 * j) + 2))), (4, .int (nI j)), (1, .int (nI d)), (0, .ref (ad 0))]) hx hb dX3_inflowOf_82 rfl hl (by decide) rfl (fun ls hl => ?_)
        refine lv_iinc (v := (nI (j + 1))) (lv' := [(4, .int (nI (j + 1))), (2, .long x19), (5, .int (nI ((3 * j) + 2))), (1, .int (nI d)), (0, .ref (ad 0))]) hx hb dX3_inflowOf_83 hl (k := 2) rfl (nI_1 _) (by decide) rfl (fun ls hl => ?_)
        refine lv_goto (tgt := 5) hx hb dX3_inflowOf_86 (by decide) ?_
        exact ih (3 - (j + 1)) (j + 1, x19) ls (by omega) ⟨rfl, (by omega), (by rw [ex19, hz, smL]; simp only [show ifC d j = (3 * j) + 2 from by unfold ifC; (repeat' split) <;> omega]), lv_sub hl [0, 1, 3, 4] rfl⟩
    · refine lv_iload hx hb dX3_inflowOf_15 (lv_at hl 0 rfl) ?_
      refine lv_goto (tgt := 51) hx hb dX3_inflowOf_17 (by decide) ?_
      refine lv_istore (lv' := [(5, .int (nI j)), (4, .int (nI j)), (2, .long z), (1, .int (nI d)), (0, .ref (ad 0))]) hx hb dX3_inflowOf_51 hl (by decide) rfl (fun ls hl => ?_)
      refine lv_lload_n hx hb dX3_inflowOf_53 rfl (lv_at hl 2 rfl) ?_
      refine lv_aload_n hx hb dX3_inflowOf_54 rfl (lv_at hl 4 rfl) ?_
      refine lv_iload hx hb dX3_inflowOf_55 (lv_at hl 0 rfl) ?_
      refine lv_iload_n hx hb dX3_inflowOf_57 rfl (lv_at hl 3 rfl) ?_
      refine vp_callSi (va_runV (As := [.int (nI j), .int (nI d)]) (rest := [.long z]) ⟨hx, hb, hml, hown, hts⟩ (c_X3_conductanceOf l dd cy ad X u j d (by omega) (by omega)) (cwV 2 hts gX3_inflowOf_X3_conductanceOf rfl rfl rfl hd_X3_conductanceOf ⟨Nat.le_of_ble_eq_true rfl, Nat.le_of_ble_eq_true rfl⟩) (rdW_V hP hK (wM_0 cy ad u X) rfl) rfl rfl hl.1 rfl (lv_room (Nat.le_of_ble_eq_true rfl)) dX3_inflowOf_58 ⟨Nat.le_of_ble_eq_true rfl, Nat.le_of_ble_eq_true rfl⟩).run (fun r20 hr20 => ?_)
      have hr20 : r20 = (u.1 1 (lk j d)) := hr20
      subst hr20
      refine lv_i2l hx hb dX3_inflowOf_61 rfl ?_
      refine lv_aload_n hx hb dX3_inflowOf_62 rfl (lv_at hl 4 rfl) ?_
      refine lv_iload hx hb dX3_inflowOf_63 (lv_at hl 0 rfl) ?_
      refine lv_iload_n hx hb dX3_inflowOf_65 rfl (lv_at hl 3 rfl) ?_
      refine vp_callSi (va_runS (As := [.int (nI j), .int (nI d)]) (rest := [.ref (ad 0), .long ((u.1 1 (lk j d)).toInt64), .long z]) ⟨hx, hb, hml, hown, hts⟩ (c_X3_otherOf l j d (by omega) (by omega)) (va_cwS 2 hts gX3_inflowOf_X3_otherOf rfl rfl rfl hd_X3_otherOf ⟨Nat.le_of_ble_eq_true rfl, Nat.le_of_ble_eq_true rfl⟩) ⟨fun a U g mk q => q, fun U hU hW => ⟨rfl, trivial⟩⟩ rfl rfl hl.1 rfl (lv_room (Nat.le_of_ble_eq_true rfl)) dX3_inflowOf_66 ⟨Nat.le_of_ble_eq_true rfl, Nat.le_of_ble_eq_true rfl⟩).run (fun r21 hr21 => ?_)
      have hr21 : r21 = (nI (ot j d)) := hr21
      subst hr21
      have ho22 := ot_lt (c := j) (s := d) (by omega) (by omega)
      refine vp_callSl (va_runV (As := [.int (nI (ot j d))]) (rest := [.long ((u.1 1 (lk j d)).toInt64), .long z]) ⟨hx, hb, hml, hown, hts⟩ (c_X3_headAt l dd cy ad X u (ot j d) (by first | omega | exact ot_lt (by first | omega | assumption) (by first | omega | assumption))) (cwV 1 hts gX3_inflowOf_X3_headAt rfl rfl rfl hd_X3_headAt ⟨Nat.le_of_ble_eq_true rfl, Nat.le_of_ble_eq_true rfl⟩) (rdW_V hP hK (wM_0 cy ad u X) rfl) rfl rfl hl.1 rfl (lv_room (Nat.le_of_ble_eq_true rfl)) dX3_inflowOf_69 ⟨Nat.le_of_ble_eq_true rfl, Nat.le_of_ble_eq_true rfl⟩).run (fun r23 hr23 => ?_)
      have hr23 : r23 = (hdM u (ot j d)) := hr23
      subst hr23
      refine lv_aload_n hx hb dX3_inflowOf_72 rfl (lv_at hl 4 rfl) ?_
      refine va_get (D := dd) (ci := 5) (v := .ref (ad 9)) (C := RX3) (T := TX3) (N := 15) hx hb hts (fun _ h9 => List.mem_cons_of_mem _ (List.mem_append_left _ (List.mem_append_right _ h9))) hown hK hP 0 (wM_0 cy ad u X) rfl 11 (by decide) (hts (Cond.fieldLink RX3 36 "HeadGridModel" "heads" "[J") (List.mem_of_getElem? (i := 1) rfl)) (fun _ h9 => h9) rfl dX3_inflowOf_73 ?_
      refine lv_iload hx hb dX3_inflowOf_76 (lv_at hl 0 rfl) ?_
      refine wa_lald hx hb hK hP (wM_9 cy ad u X) (t0 := 1) rfl (i := j) (by omega) (by decide) dX3_inflowOf_78 ?_
      refine lv_lsub hx hb dX3_inflowOf_79 ?_
      refine lv_lmul hx hb dX3_inflowOf_80 ?_
      refine lv_ladd hx hb dX3_inflowOf_81 ?_
      refine lv_topl (fun x24 ex24 => ?_)
      refine lv_lstore_n (lv' := [(2, .long x24), (5, .int (nI j)), (4, .int (nI j)), (1, .int (nI d)), (0, .ref (ad 0))]) hx hb dX3_inflowOf_82 rfl hl (by decide) rfl (fun ls hl => ?_)
      refine lv_iinc (v := (nI (j + 1))) (lv' := [(4, .int (nI (j + 1))), (2, .long x24), (5, .int (nI j)), (1, .int (nI d)), (0, .ref (ad 0))]) hx hb dX3_inflowOf_83 hl (k := 2) rfl (nI_1 _) (by decide) rfl (fun ls hl => ?_)
      refine lv_goto (tgt := 5) hx hb dX3_inflowOf_86 (by decide) ?_
      exact ih (3 - (j + 1)) (j + 1, x24) ls (by omega) ⟨rfl, (by omega), (by rw [ex24, hz, smL]; simp only [show ifC d j = j from by unfold ifC; (repeat' split) <;> omega]), lv_sub hl [0, 1, 3, 4] rfl⟩

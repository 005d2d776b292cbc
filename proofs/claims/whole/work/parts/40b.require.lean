/-! the class: tests of arguments and of the state -/
/-- what is known of the solution that is kept -/
def slI (u : CS) : Prop := ∃ b, b < 2 ∧ nI b = u.2.2.2.2.1 ∧ (b = 1 → slv (nw u) u)
/-- settings, relaxed heads, saved states are as they were -/
def frP (u u9 : CS) : Prop := u9.1 = u.1 ∧ u9.2.1 = u.2.1 ∧ u9.2.2.2.1 = u.2.2.2.1 ∧ u9.2.2.2.2.2.2 = u.2.2.2.2.2.2 ∧ slI u9
theorem frP_rf {u : CS} (h : slI u) : frP u u := ⟨rfl, rfl, rfl, rfl, h⟩
theorem frP_t {u u1 u2 : CS} (h : frP u u1) (h1 : frP u1 u2) : frP u u2 := ⟨h1.1.trans h.1, h1.2.1.trans h.2.1, h1.2.2.1.trans h.2.2.1, h1.2.2.2.1.trans h.2.2.2.1, h1.2.2.2.2⟩
theorem frP_nw {u u1 : CS} (h : frP u u1) : nw u1 = nw u := nw_congr h.1
theorem frP_R {u u1 u2 : CS} (h : frP u u1) (hs : slv (nw u1) u1) (h1 : u1.2.2.2.2.1 = nI 1) (h2 : frR u1 u2) : frP u u2 :=
  ⟨h2.1.1.trans h.1, h2.1.2.1.trans h.2.1, by rw [h2.1.2.2]; exact h.2.2.1, by rw [h2.1.2.2]; exact h.2.2.2.1, 1, by decide, by rw [h2.1.2.2]; exact h1.symm, fun _ => by rw [frR_nw h2]; exact frR_slv h2 hs⟩
/-- which exception a call throws -/
def xsE (E : String) (th : Nat) (ns : List String) : Prop := ∃ k, th = k + 1 ∧ ns[k]? = some E
def lsN (now : Nat → Int32) : Bool := decide (nR (gNow now) 9 ≠ 511)
theorem lsN_t {now : Nat → Int32} (h : nR (gNow now) 9 = 511) : lsN now = false := by unfold lsN; rw [h]; decide
theorem lsN_f {now : Nat → Int32} (h : nR (gNow now) 9 ≠ 511) : lsN now = true := by unfold lsN; exact decide_eq_true h
theorem hd_X2_requireLink : yX2_requireLink.cls ≠ "java/lang/invoke/MethodHandle" ∧ yX2_requireLink.cls ≠ "java/lang/invoke/VarHandle" ∧ (parseMethodDescriptor yX2_requireLink.desc).map (fun d => d.parameters.length) = some 1 := by decide +kernel
set_option maxHeartbeats 4000000 in
set_option maxRecDepth 100000 in
/-- X2_requireLink -/
theorem c_X2_requireLink (l : Launch) (hlt : l.stackTraces = false) (N : Nat → Nat) (sz : Nat) (v : Int32) : vx_Met l yX2_requireLink wsX2_requireLink ({ frames := 6, cells := 1, slots := 6, locals := 82 }) (va_Pc [.int v] (exS N sz)) (va_Qv (fun _ : Unit => inR v (nI 0) (nI 23) = true) (fun _ _ => True) (fun q => sz ≤ q)) (vx_X (fun _ : Unit => inR v (nI 0) (nI 23) = false) (fun E _ _ => E = xIO) (fun q => sz ≤ q)) 1 6 (fun q => sz ≤ q) := by
  refine vx_ofW (cc := cX2_requireLink) (maxL := 1) (ret := none) (by decide) rfl ?_
  intro p e s m args below meth c s₁ B hml hnt hv
  obtain ⟨rfl, hsz, hE⟩ := hv
  have hx := B.exec
  have hb := B.bytes
  have hr := B.returns
  have hts := atoms_spec (ws := wsX2_requireLink) B.pre
  have hown : s.vm.findClass RX2 = some m.cls := findClass_of_methodNamed B.named
  have hlocks := B.notSynchronized
  subst hsz
  have hS : va_S (fun q => s.heap.size ≤ q) s.heap s.heap [] := va_S.rf
  have hl := lv_entry ([.int v]) (n := 1) (Nat.le_of_ble_eq_true rfl)
  rw [lg_entry_eq]
  generalize (lg_sl ([.int v]) ++ List.replicate (1 - (lg_sl ([.int v])).length) Slot.unset).toArray = ls at hl ⊢
  have hl : lv_has ls 1 [(0, .int v)] := hl
  refine lv_iload_n hx hb dX2_requireLink_0 rfl (lv_at hl 0 rfl) ?_
  refine lv_if_lt (tgt := 10) hx hb dX2_requireLink_1 (by decide) (fun cL => ?_) (fun cL => ?_)
  · exact vx_throwS hx hb hlt (sa := N 0) hown fitIO fitN (hts (Cond.classLink RX2 172 "java/lang/IndexOutOfBoundsException") (List.mem_of_getElem? (i := 1) rfl)) (hts (Cond.initialized "java/lang/IndexOutOfBoundsException") (List.mem_of_getElem? (i := 2) rfl)) hE.2.2.2.1 (atIO (fun w9 h9 => hts w9 ((fun _ h9 => List.mem_cons_of_mem _ (List.mem_append_right _ h9)) w9 h9)) hE.2.2.1) otIO hE.1 hE.2.1 hS (hl.1.trans hml.symm) dX2_requireLink_10 dX2_requireLink_13 dX2_requireLink_14 dX2_requireLink_16 dX2_requireLink_19 (fun x9 h9 => (hnt x9 h9).elim) (Nat.le_of_ble_eq_true rfl) (Nat.le_of_ble_eq_true rfl) (Nat.le_of_ble_eq_true rfl) (Nat.le_of_ble_eq_true rfl) hlocks (fun t hvm hz hq => ⟨(), (inR_lo cL), rfl, ⟨hz, fun q h1 _ => hq q h1⟩⟩) hS.2.2 (Nat.le_of_ble_eq_true rfl) (Nat.le_of_ble_eq_true rfl)
  · refine lv_iload_n hx hb dX2_requireLink_4 rfl (lv_at hl 0 rfl) ?_
    refine lv_bipush (v := nI 24) hx hb dX2_requireLink_5 (by decide) ?_
    refine lv_icmp_lt (tgt := 20) hx hb dX2_requireLink_7 (by decide) (fun cH => ?_) (fun cH => ?_)
    · exact vx_ret (W.widen (k := 1) (n := 6) (Nat.le_of_ble_eq_true rfl) (Nat.le_of_ble_eq_true rfl) (W.vret hx hb hr (fun t ht hW => ⟨⟨(), rfl, (inR_ok (by decide) cL cH), trivial⟩, hS.F ht⟩) hS.2.2 dX2_requireLink_20))
    · exact vx_throwS hx hb hlt (sa := N 0) hown fitIO fitN (hts (Cond.classLink RX2 172 "java/lang/IndexOutOfBoundsException") (List.mem_of_getElem? (i := 1) rfl)) (hts (Cond.initialized "java/lang/IndexOutOfBoundsException") (List.mem_of_getElem? (i := 2) rfl)) hE.2.2.2.1 (atIO (fun w9 h9 => hts w9 ((fun _ h9 => List.mem_cons_of_mem _ (List.mem_append_right _ h9)) w9 h9)) hE.2.2.1) otIO hE.1 hE.2.1 hS (hl.1.trans hml.symm) dX2_requireLink_10 dX2_requireLink_13 dX2_requireLink_14 dX2_requireLink_16 dX2_requireLink_19 (fun x9 h9 => (hnt x9 h9).elim) (Nat.le_of_ble_eq_true rfl) (Nat.le_of_ble_eq_true rfl) (Nat.le_of_ble_eq_true rfl) (Nat.le_of_ble_eq_true rfl) hlocks (fun t hvm hz hq => ⟨(), (inR_hi (by decide) cH), rfl, ⟨hz, fun q h1 _ => hq q h1⟩⟩) hS.2.2 (Nat.le_of_ble_eq_true rfl) (Nat.le_of_ble_eq_true rfl)
theorem hd_X2_requirePoint : yX2_requirePoint.cls ≠ "java/lang/invoke/MethodHandle" ∧ yX2_requirePoint.cls ≠ "java/lang/invoke/VarHandle" ∧ (parseMethodDescriptor yX2_requirePoint.desc).map (fun d => d.parameters.length) = some 1 := by decide +kernel
set_option maxHeartbeats 4000000 in
set_option maxRecDepth 100000 in
/-- X2_requirePoint -/
theorem c_X2_requirePoint (l : Launch) (hlt : l.stackTraces = false) (N : Nat → Nat) (sz : Nat) (v : Int32) : vx_Met l yX2_requirePoint wsX2_requirePoint ({ frames := 6, cells := 1, slots := 6, locals := 82 }) (va_Pc [.int v] (exS N sz)) (va_Qv (fun _ : Unit => inR v (nI 0) (nI 11) = true) (fun _ _ => True) (fun q => sz ≤ q)) (vx_X (fun _ : Unit => inR v (nI 0) (nI 11) = false) (fun E _ _ => E = xIO) (fun q => sz ≤ q)) 1 6 (fun q => sz ≤ q) := by
  refine vx_ofW (cc := cX2_requirePoint) (maxL := 1) (ret := none) (by decide) rfl ?_
  intro p e s m args below meth c s₁ B hml hnt hv
  obtain ⟨rfl, hsz, hE⟩ := hv
  have hx := B.exec
  have hb := B.bytes
  have hr := B.returns
  have hts := atoms_spec (ws := wsX2_requirePoint) B.pre
  have hown : s.vm.findClass RX2 = some m.cls := findClass_of_methodNamed B.named
  have hlocks := B.notSynchronized
  subst hsz
  have hS : va_S (fun q => s.heap.size ≤ q) s.heap s.heap [] := va_S.rf
  have hl := lv_entry ([.int v]) (n := 1) (Nat.le_of_ble_eq_true rfl)
  rw [lg_entry_eq]
  generalize (lg_sl ([.int v]) ++ List.replicate (1 - (lg_sl ([.int v])).length) Slot.unset).toArray = ls at hl ⊢
  have hl : lv_has ls 1 [(0, .int v)] := hl
  refine lv_iload_n hx hb dX2_requirePoint_0 rfl (lv_at hl 0 rfl) ?_
  refine lv_if_lt (tgt := 10) hx hb dX2_requirePoint_1 (by decide) (fun cL => ?_) (fun cL => ?_)
  · exact vx_throwS hx hb hlt (sa := N 1) hown fitIO fitN (hts (Cond.classLink RX2 172 "java/lang/IndexOutOfBoundsException") (List.mem_of_getElem? (i := 1) rfl)) (hts (Cond.initialized "java/lang/IndexOutOfBoundsException") (List.mem_of_getElem? (i := 2) rfl)) hE.2.2.2.2.1 (atIO (fun w9 h9 => hts w9 ((fun _ h9 => List.mem_cons_of_mem _ (List.mem_append_right _ h9)) w9 h9)) hE.2.2.1) otIO hE.1 hE.2.1 hS (hl.1.trans hml.symm) dX2_requirePoint_10 dX2_requirePoint_13 dX2_requirePoint_14 dX2_requirePoint_16 dX2_requirePoint_19 (fun x9 h9 => (hnt x9 h9).elim) (Nat.le_of_ble_eq_true rfl) (Nat.le_of_ble_eq_true rfl) (Nat.le_of_ble_eq_true rfl) (Nat.le_of_ble_eq_true rfl) hlocks (fun t hvm hz hq => ⟨(), (inR_lo cL), rfl, ⟨hz, fun q h1 _ => hq q h1⟩⟩) hS.2.2 (Nat.le_of_ble_eq_true rfl) (Nat.le_of_ble_eq_true rfl)
  · refine lv_iload_n hx hb dX2_requirePoint_4 rfl (lv_at hl 0 rfl) ?_
    refine lv_bipush (v := nI 12) hx hb dX2_requirePoint_5 (by decide) ?_
    refine lv_icmp_lt (tgt := 20) hx hb dX2_requirePoint_7 (by decide) (fun cH => ?_) (fun cH => ?_)
    · exact vx_ret (W.widen (k := 1) (n := 6) (Nat.le_of_ble_eq_true rfl) (Nat.le_of_ble_eq_true rfl) (W.vret hx hb hr (fun t ht hW => ⟨⟨(), rfl, (inR_ok (by decide) cL cH), trivial⟩, hS.F ht⟩) hS.2.2 dX2_requirePoint_20))
    · exact vx_throwS hx hb hlt (sa := N 1) hown fitIO fitN (hts (Cond.classLink RX2 172 "java/lang/IndexOutOfBoundsException") (List.mem_of_getElem? (i := 1) rfl)) (hts (Cond.initialized "java/lang/IndexOutOfBoundsException") (List.mem_of_getElem? (i := 2) rfl)) hE.2.2.2.2.1 (atIO (fun w9 h9 => hts w9 ((fun _ h9 => List.mem_cons_of_mem _ (List.mem_append_right _ h9)) w9 h9)) hE.2.2.1) otIO hE.1 hE.2.1 hS (hl.1.trans hml.symm) dX2_requirePoint_10 dX2_requirePoint_13 dX2_requirePoint_14 dX2_requirePoint_16 dX2_requirePoint_19 (fun x9 h9 => (hnt x9 h9).elim) (Nat.le_of_ble_eq_true rfl) (Nat.le_of_ble_eq_true rfl) (Nat.le_of_ble_eq_true rfl) (Nat.le_of_ble_eq_true rfl) hlocks (fun t hvm hz hq => ⟨(), (inR_hi (by decide) cH), rfl, ⟨hz, fun q h1 _ => hq q h1⟩⟩) hS.2.2 (Nat.le_of_ble_eq_true rfl) (Nat.le_of_ble_eq_true rfl)
theorem hd_X2_requireCell : yX2_requireCell.cls ≠ "java/lang/invoke/MethodHandle" ∧ yX2_requireCell.cls ≠ "java/lang/invoke/VarHandle" ∧ (parseMethodDescriptor yX2_requireCell.desc).map (fun d => d.parameters.length) = some 1 := by decide +kernel
set_option maxHeartbeats 4000000 in
set_option maxRecDepth 100000 in
/-- X2_requireCell -/
theorem c_X2_requireCell (l : Launch) (hlt : l.stackTraces = false) (N : Nat → Nat) (sz : Nat) (v : Int32) : vx_Met l yX2_requireCell wsX2_requireCell ({ frames := 6, cells := 1, slots := 6, locals := 82 }) (va_Pc [.int v] (exS N sz)) (va_Qv (fun _ : Unit => inR v (nI 0) (nI 8) = true) (fun _ _ => True) (fun q => sz ≤ q)) (vx_X (fun _ : Unit => inR v (nI 0) (nI 8) = false) (fun E _ _ => E = xIO) (fun q => sz ≤ q)) 1 6 (fun q => sz ≤ q) := by
  refine vx_ofW (cc := cX2_requireCell) (maxL := 1) (ret := none) (by decide) rfl ?_
  intro p e s m args below meth c s₁ B hml hnt hv
  obtain ⟨rfl, hsz, hE⟩ := hv
  have hx := B.exec
  have hb := B.bytes
  have hr := B.returns
  have hts := atoms_spec (ws := wsX2_requireCell) B.pre
  have hown : s.vm.findClass RX2 = some m.cls := findClass_of_methodNamed B.named
  have hlocks := B.notSynchronized
  subst hsz
  have hS : va_S (fun q => s.heap.size ≤ q) s.heap s.heap [] := va_S.rf
  have hl := lv_entry ([.int v]) (n := 1) (Nat.le_of_ble_eq_true rfl)
  rw [lg_entry_eq]
  generalize (lg_sl ([.int v]) ++ List.replicate (1 - (lg_sl ([.int v])).length) Slot.unset).toArray = ls at hl ⊢
  have hl : lv_has ls 1 [(0, .int v)] := hl
  refine lv_iload_n hx hb dX2_requireCell_0 rfl (lv_at hl 0 rfl) ?_
  refine lv_if_lt (tgt := 10) hx hb dX2_requireCell_1 (by decide) (fun cL => ?_) (fun cL => ?_)
  · exact vx_throwS hx hb hlt (sa := N 2) hown fitIO fitN (hts (Cond.classLink RX2 172 "java/lang/IndexOutOfBoundsException") (List.mem_of_getElem? (i := 1) rfl)) (hts (Cond.initialized "java/lang/IndexOutOfBoundsException") (List.mem_of_getElem? (i := 2) rfl)) hE.2.2.2.2.2.1 (atIO (fun w9 h9 => hts w9 ((fun _ h9 => List.mem_cons_of_mem _ (List.mem_append_right _ h9)) w9 h9)) hE.2.2.1) otIO hE.1 hE.2.1 hS (hl.1.trans hml.symm) dX2_requireCell_10 dX2_requireCell_13 dX2_requireCell_14 dX2_requireCell_16 dX2_requireCell_19 (fun x9 h9 => (hnt x9 h9).elim) (Nat.le_of_ble_eq_true rfl) (Nat.le_of_ble_eq_true rfl) (Nat.le_of_ble_eq_true rfl) (Nat.le_of_ble_eq_true rfl) hlocks (fun t hvm hz hq => ⟨(), (inR_lo cL), rfl, ⟨hz, fun q h1 _ => hq q h1⟩⟩) hS.2.2 (Nat.le_of_ble_eq_true rfl) (Nat.le_of_ble_eq_true rfl)
  · refine lv_iload_n hx hb dX2_requireCell_4 rfl (lv_at hl 0 rfl) ?_
    refine lv_bipush (v := nI 9) hx hb dX2_requireCell_5 (by decide) ?_
    refine lv_icmp_lt (tgt := 20) hx hb dX2_requireCell_7 (by decide) (fun cH => ?_) (fun cH => ?_)
    · exact vx_ret (W.widen (k := 1) (n := 6) (Nat.le_of_ble_eq_true rfl) (Nat.le_of_ble_eq_true rfl) (W.vret hx hb hr (fun t ht hW => ⟨⟨(), rfl, (inR_ok (by decide) cL cH), trivial⟩, hS.F ht⟩) hS.2.2 dX2_requireCell_20))
    · exact vx_throwS hx hb hlt (sa := N 2) hown fitIO fitN (hts (Cond.classLink RX2 172 "java/lang/IndexOutOfBoundsException") (List.mem_of_getElem? (i := 1) rfl)) (hts (Cond.initialized "java/lang/IndexOutOfBoundsException") (List.mem_of_getElem? (i := 2) rfl)) hE.2.2.2.2.2.1 (atIO (fun w9 h9 => hts w9 ((fun _ h9 => List.mem_cons_of_mem _ (List.mem_append_right _ h9)) w9 h9)) hE.2.2.1) otIO hE.1 hE.2.1 hS (hl.1.trans hml.symm) dX2_requireCell_10 dX2_requireCell_13 dX2_requireCell_14 dX2_requireCell_16 dX2_requireCell_19 (fun x9 h9 => (hnt x9 h9).elim) (Nat.le_of_ble_eq_true rfl) (Nat.le_of_ble_eq_true rfl) (Nat.le_of_ble_eq_true rfl) (Nat.le_of_ble_eq_true rfl) hlocks (fun t hvm hz hq => ⟨(), (inR_hi (by decide) cH), rfl, ⟨hz, fun q h1 _ => hq q h1⟩⟩) hS.2.2 (Nat.le_of_ble_eq_true rfl) (Nat.le_of_ble_eq_true rfl)
theorem hd_X2_requireSide : yX2_requireSide.cls ≠ "java/lang/invoke/MethodHandle" ∧ yX2_requireSide.cls ≠ "java/lang/invoke/VarHandle" ∧ (parseMethodDescriptor yX2_requireSide.desc).map (fun d => d.parameters.length) = some 1 := by decide +kernel
set_option maxHeartbeats 4000000 in
set_option maxRecDepth 100000 in
/-- X2_requireSide -/
theorem c_X2_requireSide (l : Launch) (hlt : l.stackTraces = false) (N : Nat → Nat) (sz : Nat) (v : Int32) : vx_Met l yX2_requireSide wsX2_requireSide ({ frames := 6, cells := 1, slots := 6, locals := 82 }) (va_Pc [.int v] (exS N sz)) (va_Qv (fun _ : Unit => inR v (nI 0) (nI 3) = true) (fun _ _ => True) (fun q => sz ≤ q)) (vx_X (fun _ : Unit => inR v (nI 0) (nI 3) = false) (fun E _ _ => E = xIO) (fun q => sz ≤ q)) 1 6 (fun q => sz ≤ q) := by
  refine vx_ofW (cc := cX2_requireSide) (maxL := 1) (ret := none) (by decide) rfl ?_
  intro p e s m args below meth c s₁ B hml hnt hv
  obtain ⟨rfl, hsz, hE⟩ := hv
  have hx := B.exec
  have hb := B.bytes
  have hr := B.returns
  have hts := atoms_spec (ws := wsX2_requireSide) B.pre
  have hown : s.vm.findClass RX2 = some m.cls := findClass_of_methodNamed B.named
  have hlocks := B.notSynchronized
  subst hsz
  have hS : va_S (fun q => s.heap.size ≤ q) s.heap s.heap [] := va_S.rf
  have hl := lv_entry ([.int v]) (n := 1) (Nat.le_of_ble_eq_true rfl)
  rw [lg_entry_eq]
  generalize (lg_sl ([.int v]) ++ List.replicate (1 - (lg_sl ([.int v])).length) Slot.unset).toArray = ls at hl ⊢
  have hl : lv_has ls 1 [(0, .int v)] := hl
  refine lv_iload_n hx hb dX2_requireSide_0 rfl (lv_at hl 0 rfl) ?_
  refine lv_if_lt (tgt := 9) hx hb dX2_requireSide_1 (by decide) (fun cL => ?_) (fun cL => ?_)
  · exact vx_throwS hx hb hlt (sa := N 3) hown fitIO fitN (hts (Cond.classLink RX2 172 "java/lang/IndexOutOfBoundsException") (List.mem_of_getElem? (i := 1) rfl)) (hts (Cond.initialized "java/lang/IndexOutOfBoundsException") (List.mem_of_getElem? (i := 2) rfl)) hE.2.2.2.2.2.2.1 (atIO (fun w9 h9 => hts w9 ((fun _ h9 => List.mem_cons_of_mem _ (List.mem_append_right _ h9)) w9 h9)) hE.2.2.1) otIO hE.1 hE.2.1 hS (hl.1.trans hml.symm) dX2_requireSide_9 dX2_requireSide_12 dX2_requireSide_13 dX2_requireSide_15 dX2_requireSide_18 (fun x9 h9 => (hnt x9 h9).elim) (Nat.le_of_ble_eq_true rfl) (Nat.le_of_ble_eq_true rfl) (Nat.le_of_ble_eq_true rfl) (Nat.le_of_ble_eq_true rfl) hlocks (fun t hvm hz hq => ⟨(), (inR_lo cL), rfl, ⟨hz, fun q h1 _ => hq q h1⟩⟩) hS.2.2 (Nat.le_of_ble_eq_true rfl) (Nat.le_of_ble_eq_true rfl)
  · refine lv_iload_n hx hb dX2_requireSide_4 rfl (lv_at hl 0 rfl) ?_
    refine lv_iconst (v := nI 4) hx hb dX2_requireSide_5 (by decide) ?_
    refine lv_icmp_lt (tgt := 19) hx hb dX2_requireSide_6 (by decide) (fun cH => ?_) (fun cH => ?_)
    · exact vx_ret (W.widen (k := 1) (n := 6) (Nat.le_of_ble_eq_true rfl) (Nat.le_of_ble_eq_true rfl) (W.vret hx hb hr (fun t ht hW => ⟨⟨(), rfl, (inR_ok (by decide) cL cH), trivial⟩, hS.F ht⟩) hS.2.2 dX2_requireSide_19))
    · exact vx_throwS hx hb hlt (sa := N 3) hown fitIO fitN (hts (Cond.classLink RX2 172 "java/lang/IndexOutOfBoundsException") (List.mem_of_getElem? (i := 1) rfl)) (hts (Cond.initialized "java/lang/IndexOutOfBoundsException") (List.mem_of_getElem? (i := 2) rfl)) hE.2.2.2.2.2.2.1 (atIO (fun w9 h9 => hts w9 ((fun _ h9 => List.mem_cons_of_mem _ (List.mem_append_right _ h9)) w9 h9)) hE.2.2.1) otIO hE.1 hE.2.1 hS (hl.1.trans hml.symm) dX2_requireSide_9 dX2_requireSide_12 dX2_requireSide_13 dX2_requireSide_15 dX2_requireSide_18 (fun x9 h9 => (hnt x9 h9).elim) (Nat.le_of_ble_eq_true rfl) (Nat.le_of_ble_eq_true rfl) (Nat.le_of_ble_eq_true rfl) (Nat.le_of_ble_eq_true rfl) hlocks (fun t hvm hz hq => ⟨(), (inR_hi (by decide) cH), rfl, ⟨hz, fun q h1 _ => hq q h1⟩⟩) hS.2.2 (Nat.le_of_ble_eq_true rfl) (Nat.le_of_ble_eq_true rfl)
theorem hd_X2_requireRange : yX2_requireRange.cls ≠ "java/lang/invoke/MethodHandle" ∧ yX2_requireRange.cls ≠ "java/lang/invoke/VarHandle" ∧ (parseMethodDescriptor yX2_requireRange.desc).map (fun d => d.parameters.length) = some 2 := by decide +kernel
set_option maxHeartbeats 4000000 in
set_option maxRecDepth 100000 in
/-- X2_requireRange -/
theorem c_X2_requireRange (l : Launch) (hlt : l.stackTraces = false) (N : Nat → Nat) (sz : Nat) (v : Int32) (m0 : Nat) : vx_Met l yX2_requireRange wsX2_requireRange ({ frames := 6, cells := 1, slots := 6, locals := 82 }) (va_Pc [.int v, .int (nI m0)] (exS N sz)) (va_Qv (fun _ : Unit => inR v (nI 0) (nI m0) = true) (fun _ _ => True) (fun q => sz ≤ q)) (vx_X (fun _ : Unit => inR v (nI 0) (nI m0) = false) (fun E _ _ => E = xIA) (fun q => sz ≤ q)) 1 6 (fun q => sz ≤ q) := by
  refine vx_ofW (cc := cX2_requireRange) (maxL := 2) (ret := none) (by decide) rfl ?_
  intro p e s m args below meth c s₁ B hml hnt hv
  obtain ⟨rfl, hsz, hE⟩ := hv
  have hx := B.exec
  have hb := B.bytes
  have hr := B.returns
  have hts := atoms_spec (ws := wsX2_requireRange) B.pre
  have hown : s.vm.findClass RX2 = some m.cls := findClass_of_methodNamed B.named
  have hlocks := B.notSynchronized
  subst hsz
  have hS : va_S (fun q => s.heap.size ≤ q) s.heap s.heap [] := va_S.rf
  have hl := lv_entry ([.int v, .int (nI m0)]) (n := 2) (Nat.le_of_ble_eq_true rfl)
  rw [lg_entry_eq]
  generalize (lg_sl ([.int v, .int (nI m0)]) ++ List.replicate (2 - (lg_sl ([.int v, .int (nI m0)])).length) Slot.unset).toArray = ls at hl ⊢
  have hl : lv_has ls 2 [(0, .int v), (1, .int (nI m0))] := hl
  refine lv_iload_n hx hb dX2_requireRange_0 rfl (lv_at hl 0 rfl) ?_
  refine lv_if_lt (tgt := 9) hx hb dX2_requireRange_1 (by decide) (fun cL => ?_) (fun cL => ?_)
  · exact vx_throwS hx hb hlt (sa := N 4) hown fitIA fitN (hts (Cond.classLink RX2 185 "java/lang/IllegalArgumentException") (List.mem_of_getElem? (i := 1) rfl)) (hts (Cond.initialized "java/lang/IllegalArgumentException") (List.mem_of_getElem? (i := 2) rfl)) hE.2.2.2.2.2.2.2.1 (atIA (fun w9 h9 => hts w9 ((fun _ h9 => List.mem_cons_of_mem _ (List.mem_append_right _ h9)) w9 h9)) hE.2.2.1) otIA hE.1 hE.2.1 hS (hl.1.trans hml.symm) dX2_requireRange_9 dX2_requireRange_12 dX2_requireRange_13 dX2_requireRange_15 dX2_requireRange_18 (fun x9 h9 => (hnt x9 h9).elim) (Nat.le_of_ble_eq_true rfl) (Nat.le_of_ble_eq_true rfl) (Nat.le_of_ble_eq_true rfl) (Nat.le_of_ble_eq_true rfl) hlocks (fun t hvm hz hq => ⟨(), (inR_lo cL), rfl, ⟨hz, fun q h1 _ => hq q h1⟩⟩) hS.2.2 (Nat.le_of_ble_eq_true rfl) (Nat.le_of_ble_eq_true rfl)
  · refine lv_iload_n hx hb dX2_requireRange_4 rfl (lv_at hl 0 rfl) ?_
    refine lv_iload_n hx hb dX2_requireRange_5 rfl (lv_at hl 1 rfl) ?_
    refine lv_icmp_le (tgt := 19) hx hb dX2_requireRange_6 (by decide) (fun cH => ?_) (fun cH => ?_)
    · exact vx_ret (W.widen (k := 1) (n := 6) (Nat.le_of_ble_eq_true rfl) (Nat.le_of_ble_eq_true rfl) (W.vret hx hb hr (fun t ht hW => ⟨⟨(), rfl, (inR_okL cL cH), trivial⟩, hS.F ht⟩) hS.2.2 dX2_requireRange_19))
    · exact vx_throwS hx hb hlt (sa := N 4) hown fitIA fitN (hts (Cond.classLink RX2 185 "java/lang/IllegalArgumentException") (List.mem_of_getElem? (i := 1) rfl)) (hts (Cond.initialized "java/lang/IllegalArgumentException") (List.mem_of_getElem? (i := 2) rfl)) hE.2.2.2.2.2.2.2.1 (atIA (fun w9 h9 => hts w9 ((fun _ h9 => List.mem_cons_of_mem _ (List.mem_append_right _ h9)) w9 h9)) hE.2.2.1) otIA hE.1 hE.2.1 hS (hl.1.trans hml.symm) dX2_requireRange_9 dX2_requireRange_12 dX2_requireRange_13 dX2_requireRange_15 dX2_requireRange_18 (fun x9 h9 => (hnt x9 h9).elim) (Nat.le_of_ble_eq_true rfl) (Nat.le_of_ble_eq_true rfl) (Nat.le_of_ble_eq_true rfl) (Nat.le_of_ble_eq_true rfl) hlocks (fun t hvm hz hq => ⟨(), (inR_hiL cH), rfl, ⟨hz, fun q h1 _ => hq q h1⟩⟩) hS.2.2 (Nat.le_of_ble_eq_true rfl) (Nat.le_of_ble_eq_true rfl)
theorem hd_X2_requirePart : yX2_requirePart.cls ≠ "java/lang/invoke/MethodHandle" ∧ yX2_requirePart.cls ≠ "java/lang/invoke/VarHandle" ∧ (parseMethodDescriptor yX2_requirePart.desc).map (fun d => d.parameters.length) = some 1 := by decide +kernel
set_option maxHeartbeats 4000000 in
set_option maxRecDepth 100000 in
/-- X2_requirePart -/
theorem c_X2_requirePart (l : Launch) (hlt : l.stackTraces = false) (N : Nat → Nat) (sz : Nat) (v : Int32) : vx_Met l yX2_requirePart wsX2_requirePart ({ frames := 6, cells := 1, slots := 6, locals := 82 }) (va_Pc [.int v] (exS N sz)) (va_Qv (fun _ : Unit => inR v (nI 0) (nI 1) = true) (fun _ _ => True) (fun q => sz ≤ q)) (vx_X (fun _ : Unit => inR v (nI 0) (nI 1) = false) (fun E _ _ => E = xIA) (fun q => sz ≤ q)) 1 6 (fun q => sz ≤ q) := by
  refine vx_ofW (cc := cX2_requirePart) (maxL := 1) (ret := none) (by decide) rfl ?_
  intro p e s m args below meth c s₁ B hml hnt hv
  obtain ⟨rfl, hsz, hE⟩ := hv
  have hx := B.exec
  have hb := B.bytes
  have hr := B.returns
  have hts := atoms_spec (ws := wsX2_requirePart) B.pre
  have hown : s.vm.findClass RX2 = some m.cls := findClass_of_methodNamed B.named
  have hlocks := B.notSynchronized
  subst hsz
  have hS : va_S (fun q => s.heap.size ≤ q) s.heap s.heap [] := va_S.rf
  have hl := lv_entry ([.int v]) (n := 1) (Nat.le_of_ble_eq_true rfl)
  rw [lg_entry_eq]
  generalize (lg_sl ([.int v]) ++ List.replicate (1 - (lg_sl ([.int v])).length) Slot.unset).toArray = ls at hl ⊢
  have hl : lv_has ls 1 [(0, .int v)] := hl
  refine lv_iload_n hx hb dX2_requirePart_0 rfl (lv_at hl 0 rfl) ?_
  refine lv_if_eq (tgt := 19) hx hb dX2_requirePart_1 (by decide) (fun cL => ?_) (fun cL => ?_)
  · exact vx_ret (W.widen (k := 1) (n := 6) (Nat.le_of_ble_eq_true rfl) (Nat.le_of_ble_eq_true rfl) (W.vret hx hb hr (fun t ht hW => ⟨⟨(), rfl, (inR_p0 cL), trivial⟩, hS.F ht⟩) hS.2.2 dX2_requirePart_19))
  · refine lv_iload_n hx hb dX2_requirePart_4 rfl (lv_at hl 0 rfl) ?_
    refine lv_iconst (v := nI 1) hx hb dX2_requirePart_5 (by decide) ?_
    refine lv_icmp_eq (tgt := 19) hx hb dX2_requirePart_6 (by decide) (fun cH => ?_) (fun cH => ?_)
    · exact vx_ret (W.widen (k := 1) (n := 6) (Nat.le_of_ble_eq_true rfl) (Nat.le_of_ble_eq_true rfl) (W.vret hx hb hr (fun t ht hW => ⟨⟨(), rfl, (inR_p1 cH), trivial⟩, hS.F ht⟩) hS.2.2 dX2_requirePart_19))
    · exact vx_throwS hx hb hlt (sa := N 5) hown fitIA fitN (hts (Cond.classLink RX2 185 "java/lang/IllegalArgumentException") (List.mem_of_getElem? (i := 1) rfl)) (hts (Cond.initialized "java/lang/IllegalArgumentException") (List.mem_of_getElem? (i := 2) rfl)) hE.2.2.2.2.2.2.2.2.1 (atIA (fun w9 h9 => hts w9 ((fun _ h9 => List.mem_cons_of_mem _ (List.mem_append_right _ h9)) w9 h9)) hE.2.2.1) otIA hE.1 hE.2.1 hS (hl.1.trans hml.symm) dX2_requirePart_9 dX2_requirePart_12 dX2_requirePart_13 dX2_requirePart_15 dX2_requirePart_18 (fun x9 h9 => (hnt x9 h9).elim) (Nat.le_of_ble_eq_true rfl) (Nat.le_of_ble_eq_true rfl) (Nat.le_of_ble_eq_true rfl) (Nat.le_of_ble_eq_true rfl) hlocks (fun t hvm hz hq => ⟨(), (inR_pn cL cH), rfl, ⟨hz, fun q h1 _ => hq q h1⟩⟩) hS.2.2 (Nat.le_of_ble_eq_true rfl) (Nat.le_of_ble_eq_true rfl)
theorem hd_X2_requireCellSet : yX2_requireCellSet.cls ≠ "java/lang/invoke/MethodHandle" ∧ yX2_requireCellSet.cls ≠ "java/lang/invoke/VarHandle" ∧ (parseMethodDescriptor yX2_requireCellSet.desc).map (fun d => d.parameters.length) = some 1 := by decide +kernel
set_option maxHeartbeats 4000000 in
set_option maxRecDepth 100000 in
/-- X2_requireCellSet -/
theorem c_X2_requireCellSet (l : Launch) (hlt : l.stackTraces = false) (N : Nat → Nat) (sz : Nat) (v : Int32) : vx_Met l yX2_requireCellSet wsX2_requireCellSet ({ frames := 6, cells := 1, slots := 6, locals := 82 }) (va_Pc [.int v] (exS N sz)) (va_Qv (fun _ : Unit => inR v (nI 1) (nI 511) = true) (fun _ _ => True) (fun q => sz ≤ q)) (vx_X (fun _ : Unit => inR v (nI 1) (nI 511) = false) (fun E _ _ => E = xIA) (fun q => sz ≤ q)) 1 6 (fun q => sz ≤ q) := by
  refine vx_ofW (cc := cX2_requireCellSet) (maxL := 1) (ret := none) (by decide) rfl ?_
  intro p e s m args below meth c s₁ B hml hnt hv
  obtain ⟨rfl, hsz, hE⟩ := hv
  have hx := B.exec
  have hb := B.bytes
  have hr := B.returns
  have hts := atoms_spec (ws := wsX2_requireCellSet) B.pre
  have hown : s.vm.findClass RX2 = some m.cls := findClass_of_methodNamed B.named
  have hlocks := B.notSynchronized
  subst hsz
  have hS : va_S (fun q => s.heap.size ≤ q) s.heap s.heap [] := va_S.rf
  have hl := lv_entry ([.int v]) (n := 1) (Nat.le_of_ble_eq_true rfl)
  rw [lg_entry_eq]
  generalize (lg_sl ([.int v]) ++ List.replicate (1 - (lg_sl ([.int v])).length) Slot.unset).toArray = ls at hl ⊢
  have hl : lv_has ls 1 [(0, .int v)] := hl
  refine lv_iload_n hx hb dX2_requireCellSet_0 rfl (lv_at hl 0 rfl) ?_
  refine lv_if_le (tgt := 11) hx hb dX2_requireCellSet_1 (by decide) (fun cL => ?_) (fun cL => ?_)
  · exact vx_throwS hx hb hlt (sa := N 6) hown fitIA fitN (hts (Cond.classLink RX2 185 "java/lang/IllegalArgumentException") (List.mem_of_getElem? (i := 1) rfl)) (hts (Cond.initialized "java/lang/IllegalArgumentException") (List.mem_of_getElem? (i := 2) rfl)) hE.2.2.2.2.2.2.2.2.2.1 (atIA (fun w9 h9 => hts w9 ((fun _ h9 => List.mem_cons_of_mem _ (List.mem_append_right _ h9)) w9 h9)) hE.2.2.1) otIA hE.1 hE.2.1 hS (hl.1.trans hml.symm) dX2_requireCellSet_11 dX2_requireCellSet_14 dX2_requireCellSet_15 dX2_requireCellSet_17 dX2_requireCellSet_20 (fun x9 h9 => (hnt x9 h9).elim) (Nat.le_of_ble_eq_true rfl) (Nat.le_of_ble_eq_true rfl) (Nat.le_of_ble_eq_true rfl) (Nat.le_of_ble_eq_true rfl) hlocks (fun t hvm hz hq => ⟨(), (inR_slo cL), rfl, ⟨hz, fun q h1 _ => hq q h1⟩⟩) hS.2.2 (Nat.le_of_ble_eq_true rfl) (Nat.le_of_ble_eq_true rfl)
  · refine lv_iload_n hx hb dX2_requireCellSet_4 rfl (lv_at hl 0 rfl) ?_
    refine lv_sipush (v := nI 512) hx hb dX2_requireCellSet_5 (by decide) ?_
    refine lv_icmp_lt (tgt := 21) hx hb dX2_requireCellSet_8 (by decide) (fun cH => ?_) (fun cH => ?_)
    · exact vx_ret (W.widen (k := 1) (n := 6) (Nat.le_of_ble_eq_true rfl) (Nat.le_of_ble_eq_true rfl) (W.vret hx hb hr (fun t ht hW => ⟨⟨(), rfl, (inR_sok cL cH), trivial⟩, hS.F ht⟩) hS.2.2 dX2_requireCellSet_21))
    · exact vx_throwS hx hb hlt (sa := N 6) hown fitIA fitN (hts (Cond.classLink RX2 185 "java/lang/IllegalArgumentException") (List.mem_of_getElem? (i := 1) rfl)) (hts (Cond.initialized "java/lang/IllegalArgumentException") (List.mem_of_getElem? (i := 2) rfl)) hE.2.2.2.2.2.2.2.2.2.1 (atIA (fun w9 h9 => hts w9 ((fun _ h9 => List.mem_cons_of_mem _ (List.mem_append_right _ h9)) w9 h9)) hE.2.2.1) otIA hE.1 hE.2.1 hS (hl.1.trans hml.symm) dX2_requireCellSet_11 dX2_requireCellSet_14 dX2_requireCellSet_15 dX2_requireCellSet_17 dX2_requireCellSet_20 (fun x9 h9 => (hnt x9 h9).elim) (Nat.le_of_ble_eq_true rfl) (Nat.le_of_ble_eq_true rfl) (Nat.le_of_ble_eq_true rfl) (Nat.le_of_ble_eq_true rfl) hlocks (fun t hvm hz hq => ⟨(), (inR_shi cH), rfl, ⟨hz, fun q h1 _ => hq q h1⟩⟩) hS.2.2 (Nat.le_of_ble_eq_true rfl) (Nat.le_of_ble_eq_true rfl)
theorem hd_X2_requireDifferent : yX2_requireDifferent.cls ≠ "java/lang/invoke/MethodHandle" ∧ yX2_requireDifferent.cls ≠ "java/lang/invoke/VarHandle" ∧ (parseMethodDescriptor yX2_requireDifferent.desc).map (fun d => d.parameters.length) = some 2 := by decide +kernel
set_option maxHeartbeats 4000000 in
set_option maxRecDepth 100000 in
/-- X2_requireDifferent -/
theorem c_X2_requireDifferent (l : Launch) (hlt : l.stackTraces = false) (N : Nat → Nat) (sz : Nat) (v w0 : Int32) : vx_Met l yX2_requireDifferent wsX2_requireDifferent ({ frames := 6, cells := 1, slots := 6, locals := 82 }) (va_Pc [.int v, .int w0] (exS N sz)) (va_Qv (fun _ : Unit => decide (v ≠ w0) = true) (fun _ _ => True) (fun q => sz ≤ q)) (vx_X (fun _ : Unit => decide (v ≠ w0) = false) (fun E _ _ => E = xIA) (fun q => sz ≤ q)) 1 6 (fun q => sz ≤ q) := by
  refine vx_ofW (cc := cX2_requireDifferent) (maxL := 2) (ret := none) (by decide) rfl ?_
  intro p e s m args below meth c s₁ B hml hnt hv
  obtain ⟨rfl, hsz, hE⟩ := hv
  have hx := B.exec
  have hb := B.bytes
  have hr := B.returns
  have hts := atoms_spec (ws := wsX2_requireDifferent) B.pre
  have hown : s.vm.findClass RX2 = some m.cls := findClass_of_methodNamed B.named
  have hlocks := B.notSynchronized
  subst hsz
  have hS : va_S (fun q => s.heap.size ≤ q) s.heap s.heap [] := va_S.rf
  have hl := lv_entry ([.int v, .int w0]) (n := 2) (Nat.le_of_ble_eq_true rfl)
  rw [lg_entry_eq]
  generalize (lg_sl ([.int v, .int w0]) ++ List.replicate (2 - (lg_sl ([.int v, .int w0])).length) Slot.unset).toArray = ls at hl ⊢
  have hl : lv_has ls 2 [(0, .int v), (1, .int w0)] := hl
  refine lv_iload_n hx hb dX2_requireDifferent_0 rfl (lv_at hl 0 rfl) ?_
  refine lv_iload_n hx hb dX2_requireDifferent_1 rfl (lv_at hl 1 rfl) ?_
  refine lv_icmp_ne (tgt := 15) hx hb dX2_requireDifferent_2 (by decide) (fun cE => ?_) (fun cE => ?_)
  · exact vx_ret (W.widen (k := 1) (n := 6) (Nat.le_of_ble_eq_true rfl) (Nat.le_of_ble_eq_true rfl) (W.vret hx hb hr (fun t ht hW => ⟨⟨(), rfl, (decide_eq_true cE), trivial⟩, hS.F ht⟩) hS.2.2 dX2_requireDifferent_15))
  · exact vx_throwS hx hb hlt (sa := N 7) hown fitIA fitN (hts (Cond.classLink RX2 185 "java/lang/IllegalArgumentException") (List.mem_of_getElem? (i := 1) rfl)) (hts (Cond.initialized "java/lang/IllegalArgumentException") (List.mem_of_getElem? (i := 2) rfl)) hE.2.2.2.2.2.2.2.2.2.2.1 (atIA (fun w9 h9 => hts w9 ((fun _ h9 => List.mem_cons_of_mem _ (List.mem_append_right _ h9)) w9 h9)) hE.2.2.1) otIA hE.1 hE.2.1 hS (hl.1.trans hml.symm) dX2_requireDifferent_5 dX2_requireDifferent_8 dX2_requireDifferent_9 dX2_requireDifferent_11 dX2_requireDifferent_14 (fun x9 h9 => (hnt x9 h9).elim) (Nat.le_of_ble_eq_true rfl) (Nat.le_of_ble_eq_true rfl) (Nat.le_of_ble_eq_true rfl) (Nat.le_of_ble_eq_true rfl) hlocks (fun t hvm hz hq => ⟨(), (by rw [cE]; simp), rfl, ⟨hz, fun q h1 _ => hq q h1⟩⟩) hS.2.2 (Nat.le_of_ble_eq_true rfl) (Nat.le_of_ble_eq_true rfl)
theorem hd_X2_requireExactHeads : yX2_requireExactHeads.cls = RX2 ∧ yX2_requireExactHeads.cls ≠ "java/lang/invoke/MethodHandle" ∧ yX2_requireExactHeads.cls ≠ "java/lang/invoke/VarHandle" ∧ (parseMethodDescriptor yX2_requireExactHeads.desc).map (fun d => d.parameters.length) = some 0 := by decide +kernel
set_option maxHeartbeats 4000000 in
set_option maxRecDepth 100000 in
/-- X2_requireExactHeads -/
theorem c_X2_requireExactHeads (l : Launch) (hlt : l.stackTraces = false) (dd : va_G) (cy : Nat → ClassId) (ad : Nat → Nat) (X : va_W) (tt : Nat × Nat) (N : Nat → Nat) (u : CS) (sz : Nat) (hrg : rgM (nw u)) (hsI : slI u) : vx_Met l yX2_requireExactHeads wsX2_requireExactHeads ({ frames := 6, cells := 1, slots := 6, locals := 97 }) (va_Pc [.ref (ad 0)] (wrX dd cy tt N (wC cy ad u ++ X) sz)) (va_Qv (fun u9 => nR (gNow (nw u)) 9 = 511 ∧ frP u u9 ∧ slv (nw u) u9 ∧ u9.2.2.2.2.1 = nI 1) (wB dd cy (fun u9 : CS => wC cy ad u9 ++ X) (va_A (wC cy ad u ++ X) sz)) (va_A (wC cy ad u ++ X) sz)) (vx_X (fun u9 => nR (gNow (nw u)) 9 ≠ 511 ∧ frP u u9) (fun E u9 t => E = xAE ∧ wB dd cy (fun u9 : CS => wC cy ad u9 ++ X) (va_A (wC cy ad u ++ X) sz) u9 t) (va_A (wC cy ad u ++ X) sz)) 1 6 (va_A (wC cy ad u ++ X) sz) := by
  refine vx_ofW (cc := cX2_requireExactHeads) (maxL := 1) (ret := none) (by decide) rfl ?_
  intro p e s m args below meth c s₁ B hml hnt hv
  obtain ⟨rfl, ⟨hsz, hP, hK, hD0, hSt⟩, hE⟩ := hv
  have hx := B.exec
  have hb := B.bytes
  have hr := B.returns
  have hts := atoms_spec (ws := wsX2_requireExactHeads) B.pre
  have hown : s.vm.findClass RX2 = some m.cls := findClass_of_methodNamed B.named
  have hlocks := B.notSynchronized
  subst hsz
  have hD := hD0.self (sz := s.heap.size)
  generalize hAe : va_A (wC cy ad u ++ X) s.heap.size = A at hD hSt hE ⊢
  have hA : ∀ q : Nat, s.heap.size ≤ q → A q := fun q h => by rw [← hAe]; exact Or.inr h
  have hS : va_S A s.heap s.heap [] := va_S.rf
  obtain ⟨b0, hb0, h_solved, hsv⟩ := id hsI
  have hl := lv_entry ([.ref (ad 0)]) (n := 1) (Nat.le_of_ble_eq_true rfl)
  rw [lg_entry_eq]
  generalize (lg_sl ([.ref (ad 0)]) ++ List.replicate (1 - (lg_sl ([.ref (ad 0)])).length) Slot.unset).toArray = ls at hl ⊢
  have hl : lv_has ls 1 [(0, .ref (ad 0))] := hl
  refine lv_aload_n hx hb dX2_requireExactHeads_0 rfl (lv_at hl 0 rfl) ?_
  refine wc_calll (va_runV (As := []) (rest := []) ⟨hx, hb, hml, hown, hts⟩ (c_X2_commonDenominator l dd cy ad X tt u _ hrg b0 hb0 h_solved hsv) (cwV 0 hts gX2_requireExactHeads_X2_commonDenominator rfl rfl rfl hd_X2_commonDenominator ⟨Nat.le_of_ble_eq_true rfl, Nat.le_of_ble_eq_true rfl⟩) (wrC_V hP hK hD hSt hS hA (wC_0 cy ad u X) rfl) rfl rfl hl.1 rfl (lv_room (Nat.le_of_ble_eq_true rfl)) dX2_requireExactHeads_1 ⟨Nat.le_of_ble_eq_true rfl, Nat.le_of_ble_eq_true rfl⟩) hD hS hA (fun r1 us2 H locs w3 hP hD hS => ?_)
  obtain ⟨cE9, cS9, c1, c2, c3, c4, c5⟩ := w3
  have cP : frP u us2 := ⟨c2, c3, c4, c5, 1, by decide, c1.symm, fun _ => by rw [nw_congr c2]; exact cS9⟩
  have er1 : r1 = Int64.ofInt (det 9 (AM (nw u))) := cE9
  refine lv_lconst (v := 0) hx hb dX2_requireExactHeads_4 rfl ?_
  refine wl_ne (tgt := 19) hx hb dX2_requireExactHeads_5 dX2_requireExactHeads_6 (by decide) (fun cZ => ?_) (fun cZ => ?_)
  · exact vx_ret (W.widen (k := 1) (n := 6) (Nat.le_of_ble_eq_true rfl) (Nat.le_of_ble_eq_true rfl) (W.vret hx hb hr (fun t ht hW => ⟨⟨us2, rfl, ⟨Classical.byContradiction (fun q9 => cZ (by rw [cE9]; exact (den_0 hrg).mpr q9)), cP, cS9, c1⟩, by rw [ht]; exact hP, va_K.moved hW.alike hK, hD⟩, hS.F ht⟩) hS.2.2 dX2_requireExactHeads_19))
  · exact vx_throwS hx hb hlt (sa := N 8) hown fitAE fitN (hts (Cond.classLink RX2 196 "java/lang/ArithmeticException") (List.mem_of_getElem? (i := 1) rfl)) (hts (Cond.initialized "java/lang/ArithmeticException") (List.mem_of_getElem? (i := 2) rfl)) hE.2.2.2.2.2.2.2.2.2.2.2.1 (atAE (fun w9 h9 => hts w9 ((fun _ h9 => List.mem_cons_of_mem _ (List.mem_append_left _ (List.mem_append_left _ (List.mem_append_right _ h9)))) w9 h9)) hE.2.2.1) otAE hE.1 hE.2.1 hS (hl.1.trans hml.symm) dX2_requireExactHeads_9 dX2_requireExactHeads_12 dX2_requireExactHeads_13 dX2_requireExactHeads_15 dX2_requireExactHeads_18 (fun x9 h9 => (hnt x9 h9).elim) (Nat.le_of_ble_eq_true rfl) (Nat.le_of_ble_eq_true rfl) (Nat.le_of_ble_eq_true rfl) (Nat.le_of_ble_eq_true rfl) hlocks (fun t hvm hz hq => ⟨us2, ⟨(den_0 hrg).mp (by rw [← cE9]; exact cZ), cP⟩, ⟨rfl, hP.kept (fun k9 q9 h9 => hq q9.1 (hP k9 q9 h9).lt), va_K.moved hvm hK, hD⟩, ⟨Nat.le_trans hS.1 hz, fun q h1 h2 => (hq q (Nat.lt_of_lt_of_le h1 hS.1)).trans (hS.2.1 q h1 h2)⟩⟩) hS.2.2 (Nat.le_of_ble_eq_true rfl) (Nat.le_of_ble_eq_true rfl)
theorem hd_X2_requireSavedState : yX2_requireSavedState.cls = RX2 ∧ yX2_requireSavedState.cls ≠ "java/lang/invoke/MethodHandle" ∧ yX2_requireSavedState.cls ≠ "java/lang/invoke/VarHandle" ∧ (parseMethodDescriptor yX2_requireSavedState.desc).map (fun d => d.parameters.length) = some 0 := by decide +kernel
set_option maxHeartbeats 4000000 in
set_option maxRecDepth 100000 in
/-- X2_requireSavedState -/
theorem c_X2_requireSavedState (l : Launch) (hlt : l.stackTraces = false) (dd : va_G) (cy : Nat → ClassId) (ad : Nat → Nat) (X : va_W) (tt : Nat × Nat) (N : Nat → Nat) (u : CS) (sz : Nat) (n : Nat) (hn : n ≤ 4) (h_savedCount : nI n = u.2.2.2.1) : vx_Met l yX2_requireSavedState wsX2_requireSavedState ({ frames := 6, cells := 1, slots := 6, locals := 82 }) (va_Pc [.ref (ad 0)] (wrX dd cy tt N (wC cy ad u ++ X) sz)) (va_Qv (fun u9 => u9 = u ∧ n ≠ 0) (wB dd cy (fun u9 : CS => wC cy ad u9 ++ X) (va_A (wC cy ad u ++ X) sz)) (va_A (wC cy ad u ++ X) sz)) (vx_X (fun u9 => u9 = u ∧ n = 0) (fun E u9 t => E = xIS ∧ wB dd cy (fun u9 : CS => wC cy ad u9 ++ X) (va_A (wC cy ad u ++ X) sz) u9 t) (va_A (wC cy ad u ++ X) sz)) 1 6 (va_A (wC cy ad u ++ X) sz) := by
  refine vx_ofW (cc := cX2_requireSavedState) (maxL := 1) (ret := none) (by decide) rfl ?_
  intro p e s m args below meth c s₁ B hml hnt hv
  obtain ⟨rfl, ⟨hsz, hP, hK, hD0, hSt⟩, hE⟩ := hv
  have hx := B.exec
  have hb := B.bytes
  have hr := B.returns
  have hts := atoms_spec (ws := wsX2_requireSavedState) B.pre
  have hown : s.vm.findClass RX2 = some m.cls := findClass_of_methodNamed B.named
  have hlocks := B.notSynchronized
  subst hsz
  have hD := hD0.self (sz := s.heap.size)
  generalize hAe : va_A (wC cy ad u ++ X) s.heap.size = A at hD hSt hE ⊢
  have hA : ∀ q : Nat, s.heap.size ≤ q → A q := fun q h => by rw [← hAe]; exact Or.inr h
  have hS : va_S A s.heap s.heap [] := va_S.rf
  have hl := lv_entry ([.ref (ad 0)]) (n := 1) (Nat.le_of_ble_eq_true rfl)
  rw [lg_entry_eq]
  generalize (lg_sl ([.ref (ad 0)]) ++ List.replicate (1 - (lg_sl ([.ref (ad 0)])).length) Slot.unset).toArray = ls at hl ⊢
  have hl : lv_has ls 1 [(0, .ref (ad 0))] := hl
  refine lv_aload_n hx hb dX2_requireSavedState_0 rfl (lv_at hl 0 rfl) ?_
  refine va_get (D := dd) (ci := 4) (v := .int (nI n)) (C := RX2) (T := TX2) (N := 7) hx hb hts (fun _ h9 => List.mem_cons_of_mem _ (List.mem_append_left _ (List.mem_append_right _ h9))) hown hK hP (0) (wC_0 cy ad u X) rfl 2 (by decide) (hts (Cond.fieldLink RX2 20 "HeadGrid" "savedCount" "I") (List.mem_of_getElem? (i := 3) rfl)) (fun _ h9 => h9) (by rw [h_savedCount]; rfl) dX2_requireSavedState_1 ?_
  refine wn_if_ne (tgt := 17) hx hb dX2_requireSavedState_4 (by decide) (by omega) (fun cZ => ?_) (fun cZ => ?_)
  · exact vx_ret (W.widen (k := 1) (n := 6) (Nat.le_of_ble_eq_true rfl) (Nat.le_of_ble_eq_true rfl) (W.vret hx hb hr (fun t ht hW => ⟨⟨u, rfl, ⟨rfl, cZ⟩, by rw [ht]; exact hP, va_K.moved hW.alike hK, hD⟩, hS.F ht⟩) hS.2.2 dX2_requireSavedState_17))
  · exact vx_throwS hx hb hlt (sa := N 9) hown fitIS fitN (hts (Cond.classLink RX2 201 "java/lang/IllegalStateException") (List.mem_of_getElem? (i := 1) rfl)) (hts (Cond.initialized "java/lang/IllegalStateException") (List.mem_of_getElem? (i := 2) rfl)) hE.2.2.2.2.2.2.2.2.2.2.2.2 (atIS (fun w9 h9 => hts w9 ((fun _ h9 => List.mem_cons_of_mem _ (List.mem_append_right _ h9)) w9 h9)) hE.2.2.1) otIS hE.1 hE.2.1 hS (hl.1.trans hml.symm) dX2_requireSavedState_7 dX2_requireSavedState_10 dX2_requireSavedState_11 dX2_requireSavedState_13 dX2_requireSavedState_16 (fun x9 h9 => (hnt x9 h9).elim) (Nat.le_of_ble_eq_true rfl) (Nat.le_of_ble_eq_true rfl) (Nat.le_of_ble_eq_true rfl) (Nat.le_of_ble_eq_true rfl) hlocks (fun t hvm hz hq => ⟨u, ⟨rfl, cZ⟩, ⟨rfl, hP.kept (fun k9 q9 h9 => hq q9.1 (hP k9 q9 h9).lt), va_K.moved hvm hK, hD⟩, ⟨Nat.le_trans hS.1 hz, fun q h1 h2 => (hq q (Nat.lt_of_lt_of_le h1 hS.1)).trans (hS.2.1 q h1 h2)⟩⟩) hS.2.2 (Nat.le_of_ble_eq_true rfl) (Nat.le_of_ble_eq_true rfl)

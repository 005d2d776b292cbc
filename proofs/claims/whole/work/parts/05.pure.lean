/-! pure static methods of the class and of the reference -/
/-- a boolean as the machine has it -/
def bI (b : Bool) : Int32 := if b then nI 1 else nI 0
theorem bI_t {b : Bool} (h : b = true) : bI b = nI 1 := by rw [h]; rfl
theorem bI_f {b : Bool} (h : b = false) : bI b = nI 0 := by rw [h]; rfl
theorem bI_0 {b : Bool} : bI b = 0 ↔ b = false := by cases b <;> decide
theorem bI_n0 {b : Bool} : ¬ bI b = 0 ↔ b = true := by cases b <;> decide
theorem narrow_bI (b : Bool) : narrow .boolean (.int (bI b)) = .int (bI b) := by cases b <;> rfl
/-- v lies from lo to hi -/
def inR (v lo hi : Int32) : Bool := decide (lo ≤ v) && decide (v ≤ hi)
/-- the link of a cell on a side; its other end -/
def lk (c s : Nat) : Nat := if s % 2 = 0 then 12 + 4 * (c % 3) + c / 3 + s / 2 else 4 * (c / 3) + c % 3 + (if s = 1 then 1 else 0)
def ot (c s : Nat) : Nat := if s = 0 then (if c / 3 = 0 then 9 + c % 3 else c - 3) else if s = 1 then (if c % 3 = 2 then 12 + c / 3 else c + 1) else if s = 2 then (if c / 3 = 2 then 15 + c % 3 else c + 3) else (if c % 3 = 0 then 18 + c / 3 else c - 1)
theorem i32_nlt {a b : Int32} (h : a < b) : ¬ b ≤ a := by rw [Int32.not_le]; exact h
theorem hd_X3_in : yX3_in.cls ≠ "java/lang/invoke/MethodHandle" ∧ yX3_in.cls ≠ "java/lang/invoke/VarHandle" ∧ (parseMethodDescriptor yX3_in.desc).map (fun d => d.parameters.length) = some 3 := by decide +kernel
set_option maxHeartbeats 4000000 in
set_option maxRecDepth 100000 in
/-- in(v, lo, hi) -/
theorem c_X3_in (l : Launch) (v lo hi : Int32) : Met l yX3_in wsX3_in ({ frames := 0, cells := 0, slots := 0, locals := 0 }) (va_Pc [.int v, .int lo, .int hi] (fun _ => True)) (vp_Si (fun r => r = bI (inR v lo hi))) 0 0 (fun _ => False) := by
  refine Met.ofW (cc := cX3_in) (maxL := 3) (ret := (some .boolean)) (by decide) rfl ?_
  intro p e s m args below meth c s₁ B hml hv
  obtain ⟨rfl, -⟩ := hv
  have hx := B.exec
  have hb := B.bytes
  have hr := B.returns
  have hts := atoms_spec (ws := wsX3_in) B.pre
  have hown : s.vm.findClass RX3 = some m.cls := findClass_of_methodNamed B.named
  have hlocks := B.notSynchronized
  have hl := lv_entry ([.int v, .int lo, .int hi]) (n := 3) (Nat.le_of_ble_eq_true rfl)
  rw [lg_entry_eq]
  generalize (lg_sl ([.int v, .int lo, .int hi]) ++ List.replicate (3 - (lg_sl ([.int v, .int lo, .int hi])).length) Slot.unset).toArray = ls at hl ⊢
  have hl : lv_has ls 3 [(0, .int v), (1, .int lo), (2, .int hi)] := hl
  refine lv_iload_n hx hb dX3_in_0 rfl (lv_at hl 0 rfl) ?_
  refine lv_iload_n hx hb dX3_in_1 rfl (lv_at hl 1 rfl) ?_
  refine lv_icmp_lt (tgt := 14) hx hb dX3_in_2 (by decide) (fun c1 => ?_) (fun c1 => ?_)
  · refine lv_iconst (v := nI 0) hx hb dX3_in_14 (by decide) ?_
    exact W.zret (v := (nI 0)) hx hb hr rfl (fun t ht hW => ⟨(nI 0), rfl, (bI_f (by simp [inR, i32_nlt c1])).symm, ht⟩) (fun q hq => absurd hq List.not_mem_nil) dX3_in_15
  · refine lv_iload_n hx hb dX3_in_5 rfl (lv_at hl 0 rfl) ?_
    refine lv_iload_n hx hb dX3_in_6 rfl (lv_at hl 2 rfl) ?_
    refine lv_icmp_gt (tgt := 14) hx hb dX3_in_7 (by decide) (fun c2 => ?_) (fun c2 => ?_)
    · refine lv_iconst (v := nI 0) hx hb dX3_in_14 (by decide) ?_
      exact W.zret (v := (nI 0)) hx hb hr rfl (fun t ht hW => ⟨(nI 0), rfl, (by first | exact (bI_f (by simp [inR]; intro _; simpa using c2)).symm | exact (bI_t (by simp [inR]; exact ⟨by simpa using c1, by simpa using c2⟩)).symm), ht⟩) (fun q hq => absurd hq List.not_mem_nil) dX3_in_15
    · refine lv_iconst (v := nI 1) hx hb dX3_in_10 (by decide) ?_
      refine lv_goto (tgt := 15) hx hb dX3_in_11 (by decide) ?_
      exact W.zret (v := (nI 1)) hx hb hr rfl (fun t ht hW => ⟨(nI 1), rfl, (by first | exact (bI_f (by simp [inR]; intro _; simpa using c2)).symm | exact (bI_t (by simp [inR]; exact ⟨by simpa using c1, by simpa using c2⟩)).symm), ht⟩) (fun q hq => absurd hq List.not_mem_nil) dX3_in_15
theorem hd_X3_isCell : yX3_isCell.cls ≠ "java/lang/invoke/MethodHandle" ∧ yX3_isCell.cls ≠ "java/lang/invoke/VarHandle" ∧ (parseMethodDescriptor yX3_isCell.desc).map (fun d => d.parameters.length) = some 1 := by decide +kernel
set_option maxHeartbeats 4000000 in
set_option maxRecDepth 100000 in
/-- isCell(v) -/
theorem c_X3_isCell (l : Launch) (v : Int32) : Met l yX3_isCell wsX3_isCell ({ frames := 1, cells := 0, slots := 0, locals := 22 }) (va_Pc [.int v] (fun _ => True)) (vp_Si (fun r => r = bI (inR v (nI 0) (nI 8)))) 0 0 (fun _ => False) := by
  refine Met.ofW (cc := cX3_isCell) (maxL := 1) (ret := (some .boolean)) (by decide) rfl ?_
  intro p e s m args below meth c s₁ B hml hv
  obtain ⟨rfl, -⟩ := hv
  have hx := B.exec
  have hb := B.bytes
  have hr := B.returns
  have hts := atoms_spec (ws := wsX3_isCell) B.pre
  have hown : s.vm.findClass RX3 = some m.cls := findClass_of_methodNamed B.named
  have hlocks := B.notSynchronized
  have hl := lv_entry ([.int v]) (n := 1) (Nat.le_of_ble_eq_true rfl)
  rw [lg_entry_eq]
  generalize (lg_sl ([.int v]) ++ List.replicate (1 - (lg_sl ([.int v])).length) Slot.unset).toArray = ls at hl ⊢
  have hl : lv_has ls 1 [(0, .int v)] := hl
  refine lv_iload_n hx hb dX3_isCell_0 rfl (lv_at hl 0 rfl) ?_
  refine lv_iconst (v := nI 0) hx hb dX3_isCell_1 (by decide) ?_
  refine lv_bipush (v := nI 8) hx hb dX3_isCell_2 (by decide) ?_
  refine vp_callSi (va_runS (As := [.int v, .int (nI 0), .int (nI 8)]) (rest := []) ⟨hx, hb, hml, hown, hts⟩ (c_X3_in l v (nI 0) (nI 8)) (va_cwS 3 hts gX3_isCell_X3_in rfl rfl rfl hd_X3_in ⟨Nat.le_of_ble_eq_true rfl, Nat.le_of_ble_eq_true rfl⟩) ⟨fun a U g mk q => q, fun U hU hW => ⟨rfl, trivial⟩⟩ rfl rfl hl.1 rfl (lv_room (Nat.le_of_ble_eq_true rfl)) dX3_isCell_4 ⟨Nat.le_of_ble_eq_true rfl, Nat.le_of_ble_eq_true rfl⟩).run (fun r1 hr1 => ?_)
  have hr1 : r1 = bI (inR v (nI 0) (nI 8)) := hr1
  subst hr1
  exact W.zret (v := bI (inR v (nI 0) (nI 8))) hx hb hr (narrow_bI _) (fun t ht hW => ⟨bI (inR v (nI 0) (nI 8)), rfl, rfl, ht⟩) (fun q hq => absurd hq List.not_mem_nil) dX3_isCell_7
theorem hd_X3_linkOf : yX3_linkOf.cls ≠ "java/lang/invoke/MethodHandle" ∧ yX3_linkOf.cls ≠ "java/lang/invoke/VarHandle" ∧ (parseMethodDescriptor yX3_linkOf.desc).map (fun d => d.parameters.length) = some 2 := by decide +kernel
set_option maxHeartbeats 4000000 in
set_option maxRecDepth 100000 in
/-- linkOf(cell, side) -/
theorem c_X3_linkOf (l : Launch) (q s0 : Nat) (hq : q < 9) (hs0 : s0 < 4) : Met l yX3_linkOf wsX3_linkOf ({ frames := 0, cells := 0, slots := 0, locals := 0 }) (va_Pc [.int (nI q), .int (nI s0)] (fun _ => True)) (vp_Si (fun r => r = nI (lk q s0))) 0 0 (fun _ => False) := by
  refine Met.ofW (cc := cX3_linkOf) (maxL := 4) (ret := (some .int)) (by decide) rfl ?_
  intro p e s m args below meth c s₁ B hml hv
  obtain ⟨rfl, -⟩ := hv
  have hx := B.exec
  have hb := B.bytes
  have hr := B.returns
  have hts := atoms_spec (ws := wsX3_linkOf) B.pre
  have hown : s.vm.findClass RX3 = some m.cls := findClass_of_methodNamed B.named
  have hlocks := B.notSynchronized
  have hl := lv_entry ([.int (nI q), .int (nI s0)]) (n := 4) (Nat.le_of_ble_eq_true rfl)
  rw [lg_entry_eq]
  generalize (lg_sl ([.int (nI q), .int (nI s0)]) ++ List.replicate (4 - (lg_sl ([.int (nI q), .int (nI s0)])).length) Slot.unset).toArray = ls at hl ⊢
  have hl : lv_has ls 4 [(0, .int (nI q)), (1, .int (nI s0))] := hl
  refine lv_iload_n hx hb dX3_linkOf_0 rfl (lv_at hl 0 rfl) ?_
  refine lv_iconst (v := nI 3) hx hb dX3_linkOf_1 (by decide) ?_
  refine wn_idiv hx hb dX3_linkOf_2 (by omega) (by omega) (by omega) ?_
  refine lv_istore_n (lv' := [(2, .int (nI (q / 3))), (0, .int (nI q)), (1, .int (nI s0))]) hx hb dX3_linkOf_3 rfl hl (by decide) rfl (fun ls hl => ?_)
  refine lv_iload_n hx hb dX3_linkOf_4 rfl (lv_at hl 1 rfl) ?_
  refine lv_iconst (v := nI 3) hx hb dX3_linkOf_5 (by decide) ?_
  refine wn_irem hx hb dX3_linkOf_6 (by omega) (by omega) (by omega) ?_
  refine lv_istore_n (lv' := [(3, .int (nI (q % 3))), (2, .int (nI (q / 3))), (0, .int (nI q)), (1, .int (nI s0))]) hx hb dX3_linkOf_7 rfl hl (by decide) rfl (fun ls hl => ?_)
  refine lv_iload_n hx hb dX3_linkOf_8 rfl (lv_at hl 3 rfl) ?_
  refine lv_iconst (v := nI 2) hx hb dX3_linkOf_9 (by decide) ?_
  refine wn_irem hx hb dX3_linkOf_10 (by omega) (by omega) (by omega) ?_
  refine wn_if_ne (tgt := 29) hx hb dX3_linkOf_11 (by decide) (by omega) (fun c1 => ?_) (fun c1 => ?_)
  · refine lv_iconst (v := nI 4) hx hb dX3_linkOf_29 (by decide) ?_
    refine lv_iload_n hx hb dX3_linkOf_30 rfl (lv_at hl 1 rfl) ?_
    refine wn_imul hx hb dX3_linkOf_31 ?_
    refine lv_iload_n hx hb dX3_linkOf_32 rfl (lv_at hl 0 rfl) ?_
    refine wn_iadd hx hb dX3_linkOf_33 ?_
    refine lv_iload_n hx hb dX3_linkOf_34 rfl (lv_at hl 3 rfl) ?_
    refine lv_iconst (v := nI 1) hx hb dX3_linkOf_35 (by decide) ?_
    refine wn_icmp_ne (tgt := 43) hx hb dX3_linkOf_36 (by decide) (by omega) (by omega) (fun c2 => ?_) (fun c2 => ?_)
    · refine lv_iconst (v := nI 0) hx hb dX3_linkOf_43 (by decide) ?_
      refine wn_iadd hx hb dX3_linkOf_44 ?_
      exact W.iret (v := (nI (((4 * (q / 3)) + (q % 3)) + 0))) hx hb hr (fun t ht hW => ⟨(nI (((4 * (q / 3)) + (q % 3)) + 0)), rfl, (congrArg nI (by unfold lk; split <;> (try split) <;> omega)), ht⟩) (fun q hq => absurd hq List.not_mem_nil) dX3_linkOf_45
    · refine lv_iconst (v := nI 1) hx hb dX3_linkOf_39 (by decide) ?_
      refine lv_goto (tgt := 44) hx hb dX3_linkOf_40 (by decide) ?_
      refine wn_iadd hx hb dX3_linkOf_44 ?_
      exact W.iret (v := (nI (((4 * (q / 3)) + (q % 3)) + 1))) hx hb hr (fun t ht hW => ⟨(nI (((4 * (q / 3)) + (q % 3)) + 1)), rfl, (congrArg nI (by unfold lk; split <;> (try split) <;> omega)), ht⟩) (fun q hq => absurd hq List.not_mem_nil) dX3_linkOf_45
  · refine lv_bipush (v := nI 12) hx hb dX3_linkOf_14 (by decide) ?_
    refine lv_iconst (v := nI 4) hx hb dX3_linkOf_16 (by decide) ?_
    refine lv_iload_n hx hb dX3_linkOf_17 rfl (lv_at hl 0 rfl) ?_
    refine wn_imul hx hb dX3_linkOf_18 ?_
    refine wn_iadd hx hb dX3_linkOf_19 ?_
    refine lv_iload_n hx hb dX3_linkOf_20 rfl (lv_at hl 1 rfl) ?_
    refine wn_iadd hx hb dX3_linkOf_21 ?_
    refine lv_iload_n hx hb dX3_linkOf_22 rfl (lv_at hl 3 rfl) ?_
    refine lv_iconst (v := nI 2) hx hb dX3_linkOf_23 (by decide) ?_
    refine wn_idiv hx hb dX3_linkOf_24 (by omega) (by omega) (by omega) ?_
    refine wn_iadd hx hb dX3_linkOf_25 ?_
    refine lv_goto (tgt := 45) hx hb dX3_linkOf_26 (by decide) ?_
    exact W.iret (v := (nI (((12 + (4 * (q % 3))) + (q / 3)) + (s0 / 2)))) hx hb hr (fun t ht hW => ⟨(nI (((12 + (4 * (q % 3))) + (q / 3)) + (s0 / 2))), rfl, (congrArg nI (by unfold lk; split <;> (try split) <;> omega)), ht⟩) (fun q hq => absurd hq List.not_mem_nil) dX3_linkOf_45
theorem hd_X2_linkOf : yX2_linkOf.cls ≠ "java/lang/invoke/MethodHandle" ∧ yX2_linkOf.cls ≠ "java/lang/invoke/VarHandle" ∧ (parseMethodDescriptor yX2_linkOf.desc).map (fun d => d.parameters.length) = some 2 := by decide +kernel
set_option maxHeartbeats 4000000 in
set_option maxRecDepth 100000 in
/-- linkOf(cell, side) of the class -/
theorem c_X2_linkOf (l : Launch) (q s0 : Nat) (hq : q < 9) (hs0 : s0 < 4) : Met l yX2_linkOf wsX2_linkOf ({ frames := 0, cells := 0, slots := 0, locals := 0 }) (va_Pc [.int (nI q), .int (nI s0)] (fun _ => True)) (vp_Si (fun r => r = nI (lk q s0))) 0 0 (fun _ => False) := by
  refine Met.ofW (cc := cX2_linkOf) (maxL := 4) (ret := (some .int)) (by decide) rfl ?_
  intro p e s m args below meth c s₁ B hml hv
  obtain ⟨rfl, -⟩ := hv
  have hx := B.exec
  have hb := B.bytes
  have hr := B.returns
  have hts := atoms_spec (ws := wsX2_linkOf) B.pre
  have hown : s.vm.findClass RX2 = some m.cls := findClass_of_methodNamed B.named
  have hlocks := B.notSynchronized
  have hl := lv_entry ([.int (nI q), .int (nI s0)]) (n := 4) (Nat.le_of_ble_eq_true rfl)
  rw [lg_entry_eq]
  generalize (lg_sl ([.int (nI q), .int (nI s0)]) ++ List.replicate (4 - (lg_sl ([.int (nI q), .int (nI s0)])).length) Slot.unset).toArray = ls at hl ⊢
  have hl : lv_has ls 4 [(0, .int (nI q)), (1, .int (nI s0))] := hl
  refine lv_iload_n hx hb dX2_linkOf_0 rfl (lv_at hl 0 rfl) ?_
  refine lv_iconst (v := nI 3) hx hb dX2_linkOf_1 (by decide) ?_
  refine wn_idiv hx hb dX2_linkOf_2 (by omega) (by omega) (by omega) ?_
  refine lv_istore_n (lv' := [(2, .int (nI (q / 3))), (0, .int (nI q)), (1, .int (nI s0))]) hx hb dX2_linkOf_3 rfl hl (by decide) rfl (fun ls hl => ?_)
  refine lv_iload_n hx hb dX2_linkOf_4 rfl (lv_at hl 1 rfl) ?_
  refine lv_iconst (v := nI 3) hx hb dX2_linkOf_5 (by decide) ?_
  refine wn_irem hx hb dX2_linkOf_6 (by omega) (by omega) (by omega) ?_
  refine lv_istore_n (lv' := [(3, .int (nI (q % 3))), (2, .int (nI (q / 3))), (0, .int (nI q)), (1, .int (nI s0))]) hx hb dX2_linkOf_7 rfl hl (by decide) rfl (fun ls hl => ?_)
  refine lv_iload_n hx hb dX2_linkOf_8 rfl (lv_at hl 3 rfl) ?_
  rcases (show s0 = 0 ∨ s0 = 1 ∨ s0 = 2 ∨ 2 < s0 by omega) with h9 | h9 | h9 | h9
  · subst h9
    refine lv_tableIn (off := 27) (tgt := 36) hx hb dX2_linkOf_9 (by decide) (by decide) (by decide) (by decide) ?_
    refine lv_bipush (v := nI 12) hx hb dX2_linkOf_36 (by decide) ?_
    refine lv_iconst (v := nI 4) hx hb dX2_linkOf_38 (by decide) ?_
    refine lv_iload_n hx hb dX2_linkOf_39 rfl (lv_at hl 0 rfl) ?_
    refine wn_imul hx hb dX2_linkOf_40 ?_
    refine wn_iadd hx hb dX2_linkOf_41 ?_
    refine lv_iload_n hx hb dX2_linkOf_42 rfl (lv_at hl 1 rfl) ?_
    refine wn_iadd hx hb dX2_linkOf_43 ?_
    exact W.iret (v := (nI ((12 + (4 * (q % 3))) + (q / 3)))) hx hb hr (fun t ht hW => ⟨(nI ((12 + (4 * (q % 3))) + (q / 3))), rfl, (congrArg nI (by unfold lk; split <;> (try split) <;> omega)), ht⟩) (fun q hq => absurd hq List.not_mem_nil) dX2_linkOf_44
  · subst h9
    refine lv_tableIn (off := 36) (tgt := 45) hx hb dX2_linkOf_9 (by decide) (by decide) (by decide) (by decide) ?_
    refine lv_iconst (v := nI 4) hx hb dX2_linkOf_45 (by decide) ?_
    refine lv_iload_n hx hb dX2_linkOf_46 rfl (lv_at hl 1 rfl) ?_
    refine wn_imul hx hb dX2_linkOf_47 ?_
    refine lv_iload_n hx hb dX2_linkOf_48 rfl (lv_at hl 0 rfl) ?_
    refine wn_iadd hx hb dX2_linkOf_49 ?_
    refine lv_iconst (v := nI 1) hx hb dX2_linkOf_50 (by decide) ?_
    refine wn_iadd hx hb dX2_linkOf_51 ?_
    exact W.iret (v := (nI (((4 * (q / 3)) + (q % 3)) + 1))) hx hb hr (fun t ht hW => ⟨(nI (((4 * (q / 3)) + (q % 3)) + 1)), rfl, (congrArg nI (by unfold lk; split <;> (try split) <;> omega)), ht⟩) (fun q hq => absurd hq List.not_mem_nil) dX2_linkOf_52
  · subst h9
    refine lv_tableIn (off := 44) (tgt := 53) hx hb dX2_linkOf_9 (by decide) (by decide) (by decide) (by decide) ?_
    refine lv_bipush (v := nI 12) hx hb dX2_linkOf_53 (by decide) ?_
    refine lv_iconst (v := nI 4) hx hb dX2_linkOf_55 (by decide) ?_
    refine lv_iload_n hx hb dX2_linkOf_56 rfl (lv_at hl 0 rfl) ?_
    refine wn_imul hx hb dX2_linkOf_57 ?_
    refine wn_iadd hx hb dX2_linkOf_58 ?_
    refine lv_iload_n hx hb dX2_linkOf_59 rfl (lv_at hl 1 rfl) ?_
    refine wn_iadd hx hb dX2_linkOf_60 ?_
    refine lv_iconst (v := nI 1) hx hb dX2_linkOf_61 (by decide) ?_
    refine wn_iadd hx hb dX2_linkOf_62 ?_
    exact W.iret (v := (nI (((12 + (4 * (q % 3))) + (q / 3)) + 1))) hx hb hr (fun t ht hW => ⟨(nI (((12 + (4 * (q % 3))) + (q / 3)) + 1)), rfl, (congrArg nI (by unfold lk; split <;> (try split) <;> omega)), ht⟩) (fun q hq => absurd hq List.not_mem_nil) dX2_linkOf_63
  · refine lv_tableOut (tgt := 64) hx hb dX2_linkOf_9 (Or.inr (by rw [nI_toInt (by omega)]; omega)) (by decide) ?_
    refine lv_iconst (v := nI 4) hx hb dX2_linkOf_64 (by decide) ?_
    refine lv_iload_n hx hb dX2_linkOf_65 rfl (lv_at hl 1 rfl) ?_
    refine wn_imul hx hb dX2_linkOf_66 ?_
    refine lv_iload_n hx hb dX2_linkOf_67 rfl (lv_at hl 0 rfl) ?_
    refine wn_iadd hx hb dX2_linkOf_68 ?_
    exact W.iret (v := (nI ((4 * (q / 3)) + (q % 3)))) hx hb hr (fun t ht hW => ⟨(nI ((4 * (q / 3)) + (q % 3))), rfl, (congrArg nI (by unfold lk; split <;> (try split) <;> omega)), ht⟩) (fun q hq => absurd hq List.not_mem_nil) dX2_linkOf_69
theorem hd_X3_otherOf : yX3_otherOf.cls ≠ "java/lang/invoke/MethodHandle" ∧ yX3_otherOf.cls ≠ "java/lang/invoke/VarHandle" ∧ (parseMethodDescriptor yX3_otherOf.desc).map (fun d => d.parameters.length) = some 2 := by decide +kernel
set_option maxHeartbeats 4000000 in
set_option maxRecDepth 100000 in
/-- otherOf(cell, side) -/
theorem c_X3_otherOf (l : Launch) (q s0 : Nat) (hq : q < 9) (hs0 : s0 < 4) : Met l yX3_otherOf wsX3_otherOf ({ frames := 0, cells := 0, slots := 0, locals := 0 }) (va_Pc [.int (nI q), .int (nI s0)] (fun _ => True)) (vp_Si (fun r => r = nI (ot q s0))) 0 0 (fun _ => False) := by
  refine Met.ofW (cc := cX3_otherOf) (maxL := 4) (ret := (some .int)) (by decide) rfl ?_
  intro p e s m args below meth c s₁ B hml hv
  obtain ⟨rfl, -⟩ := hv
  have hx := B.exec
  have hb := B.bytes
  have hr := B.returns
  have hts := atoms_spec (ws := wsX3_otherOf) B.pre
  have hown : s.vm.findClass RX3 = some m.cls := findClass_of_methodNamed B.named
  have hlocks := B.notSynchronized
  have hl := lv_entry ([.int (nI q), .int (nI s0)]) (n := 4) (Nat.le_of_ble_eq_true rfl)
  rw [lg_entry_eq]
  generalize (lg_sl ([.int (nI q), .int (nI s0)]) ++ List.replicate (4 - (lg_sl ([.int (nI q), .int (nI s0)])).length) Slot.unset).toArray = ls at hl ⊢
  have hl : lv_has ls 4 [(0, .int (nI q)), (1, .int (nI s0))] := hl
  refine lv_iload_n hx hb dX3_otherOf_0 rfl (lv_at hl 0 rfl) ?_
  refine lv_iconst (v := nI 3) hx hb dX3_otherOf_1 (by decide) ?_
  refine wn_idiv hx hb dX3_otherOf_2 (by omega) (by omega) (by omega) ?_
  refine lv_istore_n (lv' := [(2, .int (nI (q / 3))), (0, .int (nI q)), (1, .int (nI s0))]) hx hb dX3_otherOf_3 rfl hl (by decide) rfl (fun ls hl => ?_)
  refine lv_iload_n hx hb dX3_otherOf_4 rfl (lv_at hl 1 rfl) ?_
  refine lv_iconst (v := nI 3) hx hb dX3_otherOf_5 (by decide) ?_
  refine wn_irem hx hb dX3_otherOf_6 (by omega) (by omega) (by omega) ?_
  refine lv_istore_n (lv' := [(3, .int (nI (q % 3))), (2, .int (nI (q / 3))), (0, .int (nI q)), (1, .int (nI s0))]) hx hb dX3_otherOf_7 rfl hl (by decide) rfl (fun ls hl => ?_)
  refine lv_iload_n hx hb dX3_otherOf_8 rfl (lv_at hl 3 rfl) ?_
  rcases (show s0 = 0 ∨ s0 = 1 ∨ s0 = 2 ∨ 2 < s0 by omega) with h9 | h9 | h9 | h9
  · subst h9
    refine lv_tableIn (off := 27) (tgt := 36) hx hb dX3_otherOf_9 (by decide) (by decide) (by decide) (by decide) ?_
    refine lv_iload_n hx hb dX3_otherOf_36 rfl (lv_at hl 1 rfl) ?_
    refine wn_if_ne (tgt := 47) hx hb dX3_otherOf_37 (by decide) (by omega) (fun c1 => ?_) (fun c1 => ?_)
    · refine lv_iload_n hx hb dX3_otherOf_47 rfl (lv_at hl 2 rfl) ?_
      refine lv_iconst (v := nI 3) hx hb dX3_otherOf_48 (by decide) ?_
      refine wn_isub hx hb dX3_otherOf_49 (by omega) ?_
      exact W.iret (v := (nI (q - 3))) hx hb hr (fun t ht hW => ⟨(nI (q - 3)), rfl, (congrArg nI (by unfold ot; (repeat' split) <;> omega)), ht⟩) (fun q hq => absurd hq List.not_mem_nil) dX3_otherOf_50
    · refine lv_bipush (v := nI 9) hx hb dX3_otherOf_40 (by decide) ?_
      refine lv_iload_n hx hb dX3_otherOf_42 rfl (lv_at hl 0 rfl) ?_
      refine wn_iadd hx hb dX3_otherOf_43 ?_
      refine lv_goto (tgt := 50) hx hb dX3_otherOf_44 (by decide) ?_
      exact W.iret (v := (nI (9 + (q % 3)))) hx hb hr (fun t ht hW => ⟨(nI (9 + (q % 3))), rfl, (congrArg nI (by unfold ot; (repeat' split) <;> omega)), ht⟩) (fun q hq => absurd hq List.not_mem_nil) dX3_otherOf_50
  · subst h9
    refine lv_tableIn (off := 42) (tgt := 51) hx hb dX3_otherOf_9 (by decide) (by decide) (by decide) (by decide) ?_
    refine lv_iload_n hx hb dX3_otherOf_51 rfl (lv_at hl 0 rfl) ?_
    refine lv_iconst (v := nI 2) hx hb dX3_otherOf_52 (by decide) ?_
    refine wn_icmp_ne (tgt := 63) hx hb dX3_otherOf_53 (by decide) (by omega) (by omega) (fun c2 => ?_) (fun c2 => ?_)
    · refine lv_iload_n hx hb dX3_otherOf_63 rfl (lv_at hl 2 rfl) ?_
      refine lv_iconst (v := nI 1) hx hb dX3_otherOf_64 (by decide) ?_
      refine wn_iadd hx hb dX3_otherOf_65 ?_
      exact W.iret (v := (nI (q + 1))) hx hb hr (fun t ht hW => ⟨(nI (q + 1)), rfl, (congrArg nI (by unfold ot; (repeat' split) <;> omega)), ht⟩) (fun q hq => absurd hq List.not_mem_nil) dX3_otherOf_66
    · refine lv_bipush (v := nI 12) hx hb dX3_otherOf_56 (by decide) ?_
      refine lv_iload_n hx hb dX3_otherOf_58 rfl (lv_at hl 1 rfl) ?_
      refine wn_iadd hx hb dX3_otherOf_59 ?_
      refine lv_goto (tgt := 66) hx hb dX3_otherOf_60 (by decide) ?_
      exact W.iret (v := (nI (12 + (q / 3)))) hx hb hr (fun t ht hW => ⟨(nI (12 + (q / 3))), rfl, (congrArg nI (by unfold ot; (repeat' split) <;> omega)), ht⟩) (fun q hq => absurd hq List.not_mem_nil) dX3_otherOf_66
  · subst h9
    refine lv_tableIn (off := 58) (tgt := 67) hx hb dX3_otherOf_9 (by decide) (by decide) (by decide) (by decide) ?_
    refine lv_iload_n hx hb dX3_otherOf_67 rfl (lv_at hl 1 rfl) ?_
    refine lv_iconst (v := nI 2) hx hb dX3_otherOf_68 (by decide) ?_
    refine wn_icmp_ne (tgt := 79) hx hb dX3_otherOf_69 (by decide) (by omega) (by omega) (fun c3 => ?_) (fun c3 => ?_)
    · refine lv_iload_n hx hb dX3_otherOf_79 rfl (lv_at hl 2 rfl) ?_
      refine lv_iconst (v := nI 3) hx hb dX3_otherOf_80 (by decide) ?_
      refine wn_iadd hx hb dX3_otherOf_81 ?_
      exact W.iret (v := (nI (q + 3))) hx hb hr (fun t ht hW => ⟨(nI (q + 3)), rfl, (congrArg nI (by unfold ot; (repeat' split) <;> omega)), ht⟩) (fun q hq => absurd hq List.not_mem_nil) dX3_otherOf_82
    · refine lv_bipush (v := nI 15) hx hb dX3_otherOf_72 (by decide) ?_
      refine lv_iload_n hx hb dX3_otherOf_74 rfl (lv_at hl 0 rfl) ?_
      refine wn_iadd hx hb dX3_otherOf_75 ?_
      refine lv_goto (tgt := 82) hx hb dX3_otherOf_76 (by decide) ?_
      exact W.iret (v := (nI (15 + (q % 3)))) hx hb hr (fun t ht hW => ⟨(nI (15 + (q % 3))), rfl, (congrArg nI (by unfold ot; (repeat' split) <;> omega)), ht⟩) (fun q hq => absurd hq List.not_mem_nil) dX3_otherOf_82
  · refine lv_tableOut (tgt := 83) hx hb dX3_otherOf_9 (Or.inr (by rw [nI_toInt (by omega)]; omega)) (by decide) ?_
    refine lv_iload_n hx hb dX3_otherOf_83 rfl (lv_at hl 0 rfl) ?_
    refine wn_if_ne (tgt := 94) hx hb dX3_otherOf_84 (by decide) (by omega) (fun c4 => ?_) (fun c4 => ?_)
    · refine lv_iload_n hx hb dX3_otherOf_94 rfl (lv_at hl 2 rfl) ?_
      refine lv_iconst (v := nI 1) hx hb dX3_otherOf_95 (by decide) ?_
      refine wn_isub hx hb dX3_otherOf_96 (by omega) ?_
      exact W.iret (v := (nI (q - 1))) hx hb hr (fun t ht hW => ⟨(nI (q - 1)), rfl, (congrArg nI (by unfold ot; (repeat' split) <;> omega)), ht⟩) (fun q hq => absurd hq List.not_mem_nil) dX3_otherOf_97
    · refine lv_bipush (v := nI 18) hx hb dX3_otherOf_87 (by decide) ?_
      refine lv_iload_n hx hb dX3_otherOf_89 rfl (lv_at hl 1 rfl) ?_
      refine wn_iadd hx hb dX3_otherOf_90 ?_
      refine lv_goto (tgt := 97) hx hb dX3_otherOf_91 (by decide) ?_
      exact W.iret (v := (nI (18 + (q / 3)))) hx hb hr (fun t ht hW => ⟨(nI (18 + (q / 3))), rfl, (congrArg nI (by unfold ot; (repeat' split) <;> omega)), ht⟩) (fun q hq => absurd hq List.not_mem_nil) dX3_otherOf_97
theorem hd_X2_mix : yX2_mix.cls ≠ "java/lang/invoke/MethodHandle" ∧ yX2_mix.cls ≠ "java/lang/invoke/VarHandle" ∧ (parseMethodDescriptor yX2_mix.desc).map (fun d => d.parameters.length) = some 2 := by decide +kernel
set_option maxHeartbeats 4000000 in
set_option maxRecDepth 100000 in
/-- mix(h, v) -/
theorem c_X2_mix (l : Launch) (h v : Int64) : Met l yX2_mix wsX2_mix ({ frames := 0, cells := 0, slots := 0, locals := 0 }) (va_Pc [.long h, .long v] (fun _ => True)) (vp_Sl (fun r => r = 31 * h + v)) 0 0 (fun _ => False) := by
  refine Met.ofW (cc := cX2_mix) (maxL := 4) (ret := (some .long)) (by decide) rfl ?_
  intro p e s m args below meth c s₁ B hml hv
  obtain ⟨rfl, -⟩ := hv
  have hx := B.exec
  have hb := B.bytes
  have hr := B.returns
  have hts := atoms_spec (ws := wsX2_mix) B.pre
  have hown : s.vm.findClass RX2 = some m.cls := findClass_of_methodNamed B.named
  have hlocks := B.notSynchronized
  have hl := lv_entry ([.long h, .long v]) (n := 4) (Nat.le_of_ble_eq_true rfl)
  rw [lg_entry_eq]
  generalize (lg_sl ([.long h, .long v]) ++ List.replicate (4 - (lg_sl ([.long h, .long v])).length) Slot.unset).toArray = ls at hl ⊢
  have hl : lv_has ls 4 [(0, .long h), (2, .long v)] := hl
  refine lv_ldc2 hx hb hown (hts _ (List.mem_of_getElem? (i := 1) rfl)) dX2_mix_0 ?_
  refine lv_lload_n hx hb dX2_mix_3 rfl (lv_at hl 0 rfl) ?_
  refine lv_lmul hx hb dX2_mix_4 ?_
  refine lv_lload_n hx hb dX2_mix_5 rfl (lv_at hl 1 rfl) ?_
  refine lv_ladd hx hb dX2_mix_6 ?_
  exact W.lret (v := ((31 * h) + v)) hx hb hr (fun t ht hW => ⟨((31 * h) + v), rfl, rfl, ht⟩) (fun q hq => absurd hq List.not_mem_nil) dX2_mix_7

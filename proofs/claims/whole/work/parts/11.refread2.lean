/-! divisor, part of a fraction, the rest for a pair, looseness: reading methods of the reference -/
theorem i64_nn {a : Int64} (h : 0 ≤ a) : 0 ≤ a.toInt := by
  have h1 := Int64.le_iff_toInt_le.mp h
  simpa using h1
theorem i64_n {a : Int64} (h : ¬ 0 ≤ a) : a.toInt < 0 := by
  have h1 : ¬ (0 : Int64).toInt ≤ a.toInt := fun q => h (Int64.le_iff_toInt_le.mpr q)
  have h2 : (0 : Int64).toInt = 0 := by decide
  omega
theorem absL_pos {a : Int64} (h : 0 ≤ a) : a = lN a.toInt.natAbs := by
  have h1 := i64_nn h
  have h2 := Int64.toInt_lt a
  apply Int64.toInt_inj.mp
  rw [pk_lT (by omega)]
  omega
theorem absL_neg {a : Int64} (h : ¬ 0 ≤ a) (hm : a.toInt ≠ -2 ^ 63) : -a = lN a.toInt.natAbs := by
  have h1 := i64_n h
  have h2 := Int64.le_toInt a
  apply Int64.toInt_inj.mp
  rw [pk_lT (by omega), Int64.toInt_neg, Int.bmod_eq_of_le (by omega) (by omega)]
  omega
theorem lN_0 {n : Nat} (h : n < 2 ^ 63) (e : lN n = 0) : n = 0 := (pk_lEQ h (by decide)).mp e
theorem lN_n0 {n : Nat} (h : n < 2 ^ 63) (e : ¬ lN n = 0) : 0 < n := by
  rcases Nat.eq_zero_or_pos n with h0 | h0
  · subst h0; exact absurd rfl e
  · exact h0
/-- one cell looked at: it is connected over this side -/
def lsS (cd : Nat → Nat → Int32) (k : Nat) (z : Int32) : Int32 := z ||| (if (9 ≤ ot (k / 4) (k % 4) ∨ (z >>> (nI (ot (k / 4) (k % 4)) &&& 31) &&& nI 1) = nI 1) ∧ 0 < cd (k / 4) (k % 4) then nI 1 <<< (nI (k / 4) &&& 31) else nI 0)
def lsK (cd : Nat → Nat → Int32) : Nat → Int32 → Int32
  | 0, z => z
  | k + 1, z => lsS cd k (lsK cd k z)
def lsR (cd : Nat → Nat → Int32) : Nat → Int32
  | 0 => nI 0
  | r + 1 => lsK cd 36 (lsR cd r)
def lsM (u : MS) : Bool := decide (lsR (fun q s0 => u.1 1 (lk q s0)) 9 ≠ nI 511)
theorem hd_X3_divisor : yX3_divisor.cls ≠ "java/lang/invoke/MethodHandle" ∧ yX3_divisor.cls ≠ "java/lang/invoke/VarHandle" ∧ (parseMethodDescriptor yX3_divisor.desc).map (fun d => d.parameters.length) = some 2 := by decide +kernel
set_option maxHeartbeats 4000000 in
set_option maxRecDepth 100000 in
/-- divisor(a, b) -/
theorem c_X3_divisor (l : Launch) (a : Int64) (b : Nat) (ha : a.toInt ≠ -2 ^ 63) (hb0 : b < 2 ^ 63) : Met l yX3_divisor wsX3_divisor ({ frames := 0, cells := 0, slots := 0, locals := 0 }) (va_Pc [.long a, .long (lN b)] (fun _ => True)) (vp_Sl (fun r => r = lN (Nat.gcd a.toInt.natAbs b))) 0 0 (fun _ => False) := by
  refine Met.ofW (cc := cX3_divisor) (maxL := 10) (ret := (some .long)) (by decide) rfl ?_
  intro p e s m args below meth c s₁ B hml hv
  obtain ⟨rfl, -⟩ := hv
  have hx := B.exec
  have hb := B.bytes
  have hr := B.returns
  have hts := atoms_spec (ws := wsX3_divisor) B.pre
  have hown : s.vm.findClass RX3 = some m.cls := findClass_of_methodNamed B.named
  have hlocks := B.notSynchronized
  have hl := lv_entry ([.long a, .long (lN b)]) (n := 10) (Nat.le_of_ble_eq_true rfl)
  rw [lg_entry_eq]
  generalize (lg_sl ([.long a, .long (lN b)]) ++ List.replicate (10 - (lg_sl ([.long a, .long (lN b)])).length) Slot.unset).toArray = ls at hl ⊢
  have hl : lv_has ls 10 [(0, .long a), (2, .long (lN b))] := hl
  refine lv_lload_n hx hb dX3_divisor_0 rfl (lv_at hl 0 rfl) ?_
  refine lv_lconst (v := 0) hx hb dX3_divisor_1 rfl ?_
  refine wl_ge (tgt := 11) hx hb dX3_divisor_2 dX3_divisor_3 (by decide) (fun c1 => ?_) (fun c1 => ?_)
  · refine lv_lload_n hx hb dX3_divisor_11 rfl (lv_at hl 0 rfl) ?_
    refine lv_topl (fun y1 ey1 => ?_)
    have ey1 : y1 = lN a.toInt.natAbs := ey1.trans (absL_pos c1)
    subst ey1
    refine lv_lstore (lv' := [(4, .long (lN a.toInt.natAbs)), (0, .long a), (2, .long (lN b))]) hx hb dX3_divisor_12 hl (by decide) rfl (fun ls hl => ?_)
    refine lv_lload_n hx hb dX3_divisor_14 rfl (lv_at hl 2 rfl) ?_
    refine lv_lstore (lv' := [(6, .long (lN b)), (4, .long (lN a.toInt.natAbs)), (0, .long a), (2, .long (lN b))]) hx hb dX3_divisor_15 hl (by decide) rfl (fun ls hl => ?_)
    refine wLoopR (σ := Nat × Nat) (fun k x ls => k = x.2 ∧ (Nat.gcd x.1 x.2 = Nat.gcd a.toInt.natAbs b) ∧ (x.1 < 2 ^ 63) ∧ (x.2 < 2 ^ 63) ∧ lv_has ls 10 [(4, .long (lN x.1)), (6, .long (lN x.2))]) ?_ _ (a.toInt.natAbs, b) _ ⟨rfl, rfl, (by have h1 := Int64.toInt_lt a; have h2 := Int64.le_toInt a; omega), hb0, lv_sub hl [1, 0] rfl⟩
    intro k x ls hI ih
    obtain ⟨P0, Q0⟩ := x
    obtain ⟨hk, hg, hP2, hQ2, hl⟩ := hI
    have hk : k = Q0 := hk
    have hg : Nat.gcd P0 Q0 = Nat.gcd a.toInt.natAbs b := hg
    have hP2 : P0 < 2 ^ 63 := hP2
    have hQ2 : Q0 < 2 ^ 63 := hQ2
    have hl : lv_has ls 10 [(4, .long (lN P0)), (6, .long (lN Q0))] := hl
    refine lv_lload hx hb dX3_divisor_17 (lv_at hl 1 rfl) ?_
    refine lv_lconst (v := 0) hx hb dX3_divisor_19 rfl ?_
    refine wl_eq (tgt := 42) hx hb dX3_divisor_20 dX3_divisor_21 (by decide) (fun c2 => ?_) (fun c2 => ?_)
    · refine lv_lload hx hb dX3_divisor_42 (lv_at hl 0 rfl) ?_
      exact W.lret (v := lN P0) hx hb hr (fun t ht hW => ⟨lN P0, rfl, (by rw [← hg, lN_0 hQ2 c2, Nat.gcd_zero_right]), ht⟩) (fun q hq => absurd hq List.not_mem_nil) dX3_divisor_44
    · refine lv_lload hx hb dX3_divisor_24 (lv_at hl 0 rfl) ?_
      refine lv_lload hx hb dX3_divisor_26 (lv_at hl 1 rfl) ?_
      refine lv_lrem hx hb dX3_divisor_28 c2 ?_
      refine lv_topl (fun y2 ey2 => ?_)
      have ey2 : y2 = lN (P0 % Q0) := ey2.trans (pk_lRem hP2 (lN_n0 hQ2 c2) hQ2)
      subst ey2
      refine lv_lstore (lv' := [(8, .long (lN (P0 % Q0))), (4, .long (lN P0)), (6, .long (lN Q0))]) hx hb dX3_divisor_29 hl (by decide) rfl (fun ls hl => ?_)
      refine lv_lload hx hb dX3_divisor_31 (lv_at hl 2 rfl) ?_
      refine lv_lstore (lv' := [(4, .long (lN Q0)), (8, .long (lN (P0 % Q0))), (6, .long (lN Q0))]) hx hb dX3_divisor_33 hl (by decide) rfl (fun ls hl => ?_)
      refine lv_lload hx hb dX3_divisor_35 (lv_at hl 1 rfl) ?_
      refine lv_lstore (lv' := [(6, .long (lN (P0 % Q0))), (4, .long (lN Q0)), (8, .long (lN (P0 % Q0)))]) hx hb dX3_divisor_37 hl (by decide) rfl (fun ls hl => ?_)
      refine lv_goto (tgt := 17) hx hb dX3_divisor_39 (by decide) ?_
      exact ih ((P0 % Q0)) (Q0, P0 % Q0) ls (by rw [hk]; exact Nat.mod_lt _ (lN_n0 hQ2 c2)) ⟨rfl, (by rw [← hg, Nat.gcd_comm P0 Q0, Nat.gcd_rec Q0 P0, Nat.gcd_comm]), hQ2, (Nat.lt_trans (Nat.mod_lt _ (lN_n0 hQ2 c2)) hQ2), lv_sub hl [1, 0] rfl⟩
  · refine lv_lload_n hx hb dX3_divisor_6 rfl (lv_at hl 0 rfl) ?_
    refine lv_lneg hx hb dX3_divisor_7 ?_
    refine lv_goto (tgt := 12) hx hb dX3_divisor_8 (by decide) ?_
    refine lv_topl (fun y3 ey3 => ?_)
    have ey3 : y3 = lN a.toInt.natAbs := ey3.trans (absL_neg c1 ha)
    subst ey3
    refine lv_lstore (lv' := [(4, .long (lN a.toInt.natAbs)), (0, .long a), (2, .long (lN b))]) hx hb dX3_divisor_12 hl (by decide) rfl (fun ls hl => ?_)
    refine lv_lload_n hx hb dX3_divisor_14 rfl (lv_at hl 2 rfl) ?_
    refine lv_lstore (lv' := [(6, .long (lN b)), (4, .long (lN a.toInt.natAbs)), (0, .long a), (2, .long (lN b))]) hx hb dX3_divisor_15 hl (by decide) rfl (fun ls hl => ?_)
    refine wLoopR (σ := Nat × Nat) (fun k x ls => k = x.2 ∧ (Nat.gcd x.1 x.2 = Nat.gcd a.toInt.natAbs b) ∧ (x.1 < 2 ^ 63) ∧ (x.2 < 2 ^ 63) ∧ lv_has ls 10 [(4, .long (lN x.1)), (6, .long (lN x.2))]) ?_ _ (a.toInt.natAbs, b) _ ⟨rfl, rfl, (by have h1 := Int64.toInt_lt a; have h2 := Int64.le_toInt a; omega), hb0, lv_sub hl [1, 0] rfl⟩
    intro k x ls hI ih
    obtain ⟨P0, Q0⟩ := x
    obtain ⟨hk, hg, hP2, hQ2, hl⟩ := hI
    have hk : k = Q0 := hk
    have hg : Nat.gcd P0 Q0 = Nat.gcd a.toInt.natAbs b := hg
    have hP2 : P0 < 2 ^ 63 := hP2
    have hQ2 : Q0 < 2 ^ 63 := hQ2
    have hl : lv_has ls 10 [(4, .long (lN P0)), (6, .long (lN Q0))] := hl
    refine lv_lload hx hb dX3_divisor_17 (lv_at hl 1 rfl) ?_
    refine lv_lconst (v := 0) hx hb dX3_divisor_19 rfl ?_
    refine wl_eq (tgt := 42) hx hb dX3_divisor_20 dX3_divisor_21 (by decide) (fun c2 => ?_) (fun c2 => ?_)
    · refine lv_lload hx hb dX3_divisor_42 (lv_at hl 0 rfl) ?_
      exact W.lret (v := lN P0) hx hb hr (fun t ht hW => ⟨lN P0, rfl, (by rw [← hg, lN_0 hQ2 c2, Nat.gcd_zero_right]), ht⟩) (fun q hq => absurd hq List.not_mem_nil) dX3_divisor_44
    · refine lv_lload hx hb dX3_divisor_24 (lv_at hl 0 rfl) ?_
      refine lv_lload hx hb dX3_divisor_26 (lv_at hl 1 rfl) ?_
      refine lv_lrem hx hb dX3_divisor_28 c2 ?_
      refine lv_topl (fun y4 ey4 => ?_)
      have ey4 : y4 = lN (P0 % Q0) := ey4.trans (pk_lRem hP2 (lN_n0 hQ2 c2) hQ2)
      subst ey4
      refine lv_lstore (lv' := [(8, .long (lN (P0 % Q0))), (4, .long (lN P0)), (6, .long (lN Q0))]) hx hb dX3_divisor_29 hl (by decide) rfl (fun ls hl => ?_)
      refine lv_lload hx hb dX3_divisor_31 (lv_at hl 2 rfl) ?_
      refine lv_lstore (lv' := [(4, .long (lN Q0)), (8, .long (lN (P0 % Q0))), (6, .long (lN Q0))]) hx hb dX3_divisor_33 hl (by decide) rfl (fun ls hl => ?_)
      refine lv_lload hx hb dX3_divisor_35 (lv_at hl 1 rfl) ?_
      refine lv_lstore (lv' := [(6, .long (lN (P0 % Q0))), (4, .long (lN Q0)), (8, .long (lN (P0 % Q0)))]) hx hb dX3_divisor_37 hl (by decide) rfl (fun ls hl => ?_)
      refine lv_goto (tgt := 17) hx hb dX3_divisor_39 (by decide) ?_
      exact ih ((P0 % Q0)) (Q0, P0 % Q0) ls (by rw [hk]; exact Nat.mod_lt _ (lN_n0 hQ2 c2)) ⟨rfl, (by rw [← hg, Nat.gcd_comm P0 Q0, Nat.gcd_rec Q0 P0, Nat.gcd_comm]), hQ2, (Nat.lt_trans (Nat.mod_lt _ (lN_n0 hQ2 c2)) hQ2), lv_sub hl [1, 0] rfl⟩
theorem hd_X3_partOf : yX3_partOf.cls = RX3 ∧ yX3_partOf.cls ≠ "java/lang/invoke/MethodHandle" ∧ yX3_partOf.cls ≠ "java/lang/invoke/VarHandle" ∧ (parseMethodDescriptor yX3_partOf.desc).map (fun d => d.parameters.length) = some 2 := by decide +kernel
set_option maxHeartbeats 4000000 in
set_option maxRecDepth 100000 in
/-- partOf(v, part) -/
theorem c_X3_partOf (l : Launch) (dd : va_G) (cy : Nat → ClassId) (ad : Nat → Nat) (X : va_W) (u : MS) (v : Int64) (pt b : Nat) (hv : v.toInt ≠ -2 ^ 63) (h_whole : lN b = u.2.2.2.2.2.1) (hb0 : 0 < b) (hb1 : b < 2 ^ 63) (hpt : pt < 2) : Met l yX3_partOf wsX3_partOf ({ frames := 1, cells := 0, slots := 0, locals := 29 }) (va_Pc [.ref (ad 0), .long v, .int (nI pt)] (rdW dd cy (wM cy ad u ++ X))) (vp_Sl (fun r => r = (if pt = 0 then v else lN b) / lN (Nat.gcd v.toInt.natAbs b))) 0 0 (fun _ => False) := by
  refine Met.ofW (cc := cX3_partOf) (maxL := 4) (ret := (some .long)) (by decide) rfl ?_
  intro p e s m args below meth c s₁ B hml hv
  obtain ⟨rfl, hP, hK⟩ := hv
  have hx := B.exec
  have hb := B.bytes
  have hr := B.returns
  have hts := atoms_spec (ws := wsX3_partOf) B.pre
  have hown : s.vm.findClass RX3 = some m.cls := findClass_of_methodNamed B.named
  have hlocks := B.notSynchronized
  have hl := lv_entry ([.ref (ad 0), .long v, .int (nI pt)]) (n := 4) (Nat.le_of_ble_eq_true rfl)
  rw [lg_entry_eq]
  generalize (lg_sl ([.ref (ad 0), .long v, .int (nI pt)]) ++ List.replicate (4 - (lg_sl ([.ref (ad 0), .long v, .int (nI pt)])).length) Slot.unset).toArray = ls at hl ⊢
  have hl : lv_has ls 4 [(0, .ref (ad 0)), (1, .long v), (3, .int (nI pt))] := hl
  refine lv_iload_n hx hb dX3_partOf_0 rfl (lv_at hl 2 rfl) ?_
  refine wn_if_ne (tgt := 8) hx hb dX3_partOf_1 (by decide) (by omega) (fun c1 => ?_) (fun c1 => ?_)
  · refine lv_aload_n hx hb dX3_partOf_8 rfl (lv_at hl 0 rfl) ?_
    refine va_get (D := dd) (ci := 5) (v := .long (lN b)) (C := RX3) (T := TX3) (N := 15) hx hb hts (fun _ h9 => List.mem_cons_of_mem _ (List.mem_append_left _ (List.mem_append_right _ h9))) hown hK hP 0 (wM_0 cy ad u X) rfl 10 (by decide) (hts (Cond.fieldLink RX3 87 "HeadGridModel" "whole" "J") (List.mem_of_getElem? (i := 1) rfl)) (fun _ h9 => h9) (by rw [h_whole]; rfl) dX3_partOf_9 ?_
    refine lv_lload_n hx hb dX3_partOf_12 rfl (lv_at hl 1 rfl) ?_
    refine lv_aload_n hx hb dX3_partOf_13 rfl (lv_at hl 0 rfl) ?_
    refine va_get (D := dd) (ci := 5) (v := .long (lN b)) (C := RX3) (T := TX3) (N := 15) hx hb hts (fun _ h9 => List.mem_cons_of_mem _ (List.mem_append_left _ (List.mem_append_right _ h9))) hown hK hP 0 (wM_0 cy ad u X) rfl 10 (by decide) (hts (Cond.fieldLink RX3 87 "HeadGridModel" "whole" "J") (List.mem_of_getElem? (i := 1) rfl)) (fun _ h9 => h9) (by rw [h_whole]; rfl) dX3_partOf_14 ?_
    refine vp_callSl (va_runS (As := [.long v, .long (lN b)]) (rest := [.long (lN b)]) ⟨hx, hb, hml, hown, hts⟩ (c_X3_divisor l v b hv hb1) (va_cwS 2 hts gX3_partOf_X3_divisor rfl rfl rfl hd_X3_divisor ⟨Nat.le_of_ble_eq_true rfl, Nat.le_of_ble_eq_true rfl⟩) ⟨fun a U g mk q => q, fun U hU hW => ⟨rfl, trivial⟩⟩ rfl rfl hl.1 rfl (lv_room (Nat.le_of_ble_eq_true rfl)) dX3_partOf_17 ⟨Nat.le_of_ble_eq_true rfl, Nat.le_of_ble_eq_true rfl⟩).run (fun r1 hr1 => ?_)
    have hr1 : r1 = lN (Nat.gcd v.toInt.natAbs b) := hr1
    subst hr1
    refine lv_ldiv hx hb dX3_partOf_20 (fun h9 => absurd (lN_0 (Nat.lt_of_le_of_lt (Nat.gcd_le_right _ hb0) hb1) h9) (Nat.ne_of_gt (Nat.gcd_pos_of_pos_right _ hb0))) ?_
    exact W.lret (v := (lN b / lN (Nat.gcd v.toInt.natAbs b))) hx hb hr (fun t ht hW => ⟨(lN b / lN (Nat.gcd v.toInt.natAbs b)), rfl, (by rw [if_neg c1]), ht⟩) (fun q hq => absurd hq List.not_mem_nil) dX3_partOf_21
  · refine lv_lload_n hx hb dX3_partOf_4 rfl (lv_at hl 1 rfl) ?_
    refine lv_goto (tgt := 12) hx hb dX3_partOf_5 (by decide) ?_
    refine lv_lload_n hx hb dX3_partOf_12 rfl (lv_at hl 1 rfl) ?_
    refine lv_aload_n hx hb dX3_partOf_13 rfl (lv_at hl 0 rfl) ?_
    refine va_get (D := dd) (ci := 5) (v := .long (lN b)) (C := RX3) (T := TX3) (N := 15) hx hb hts (fun _ h9 => List.mem_cons_of_mem _ (List.mem_append_left _ (List.mem_append_right _ h9))) hown hK hP 0 (wM_0 cy ad u X) rfl 10 (by decide) (hts (Cond.fieldLink RX3 87 "HeadGridModel" "whole" "J") (List.mem_of_getElem? (i := 1) rfl)) (fun _ h9 => h9) (by rw [h_whole]; rfl) dX3_partOf_14 ?_
    refine vp_callSl (va_runS (As := [.long v, .long (lN b)]) (rest := [.long v]) ⟨hx, hb, hml, hown, hts⟩ (c_X3_divisor l v b hv hb1) (va_cwS 2 hts gX3_partOf_X3_divisor rfl rfl rfl hd_X3_divisor ⟨Nat.le_of_ble_eq_true rfl, Nat.le_of_ble_eq_true rfl⟩) ⟨fun a U g mk q => q, fun U hU hW => ⟨rfl, trivial⟩⟩ rfl rfl hl.1 rfl (lv_room (Nat.le_of_ble_eq_true rfl)) dX3_partOf_17 ⟨Nat.le_of_ble_eq_true rfl, Nat.le_of_ble_eq_true rfl⟩).run (fun r2 hr2 => ?_)
    have hr2 : r2 = lN (Nat.gcd v.toInt.natAbs b) := hr2
    subst hr2
    refine lv_ldiv hx hb dX3_partOf_20 (fun h9 => absurd (lN_0 (Nat.lt_of_le_of_lt (Nat.gcd_le_right _ hb0) hb1) h9) (Nat.ne_of_gt (Nat.gcd_pos_of_pos_right _ hb0))) ?_
    exact W.lret (v := (v / lN (Nat.gcd v.toInt.natAbs b))) hx hb hr (fun t ht hW => ⟨(v / lN (Nat.gcd v.toInt.natAbs b)), rfl, (by rw [if_pos c1]), ht⟩) (fun q hq => absurd hq List.not_mem_nil) dX3_partOf_21
theorem hd_X3_restFor : yX3_restFor.cls = RX3 ∧ yX3_restFor.cls ≠ "java/lang/invoke/MethodHandle" ∧ yX3_restFor.cls ≠ "java/lang/invoke/VarHandle" ∧ (parseMethodDescriptor yX3_restFor.desc).map (fun d => d.parameters.length) = some 3 := by decide +kernel
set_option maxHeartbeats 4000000 in
set_option maxRecDepth 100000 in
/-- restFor(a, b, rate) -/
theorem c_X3_restFor (l : Launch) (dd : va_G) (cy : Nat → ClassId) (ad : Nat → Nat) (X : va_W) (u : MS) (a b t : Nat) (ha : a < 9) (hb1 : b < 9) : Met l yX3_restFor wsX3_restFor ({ frames := 0, cells := 0, slots := 0, locals := 0 }) (va_Pc [.ref (ad 0), .int (nI a), .int (nI b), .int (nI t)] (rdW dd cy (wM cy ad u ++ X))) (vp_Sl (fun r => r = rfM (u.2.2.1 10) (u.2.2.1 8) a b (nI t).toInt64 9 0 1000)) 0 0 (fun _ => False) := by
  refine Met.ofW (cc := cX3_restFor) (maxL := 11) (ret := (some .long)) (by decide) rfl ?_
  intro p e s m args below meth c s₁ B hml hv
  obtain ⟨rfl, hP, hK⟩ := hv
  have hx := B.exec
  have hb := B.bytes
  have hr := B.returns
  have hts := atoms_spec (ws := wsX3_restFor) B.pre
  have hown : s.vm.findClass RX3 = some m.cls := findClass_of_methodNamed B.named
  have hlocks := B.notSynchronized
  have hl := lv_entry ([.ref (ad 0), .int (nI a), .int (nI b), .int (nI t)]) (n := 11) (Nat.le_of_ble_eq_true rfl)
  rw [lg_entry_eq]
  generalize (lg_sl ([.ref (ad 0), .int (nI a), .int (nI b), .int (nI t)]) ++ List.replicate (11 - (lg_sl ([.ref (ad 0), .int (nI a), .int (nI b), .int (nI t)])).length) Slot.unset).toArray = ls at hl ⊢
  have hl : lv_has ls 11 [(0, .ref (ad 0)), (1, .int (nI a)), (2, .int (nI b)), (3, .int (nI t))] := hl
  refine lv_ldc2 hx hb hown (hts _ (List.mem_of_getElem? (i := 1) rfl)) dX3_restFor_0 ?_
  refine lv_lstore (lv' := [(4, .long 1000), (0, .ref (ad 0)), (1, .int (nI a)), (2, .int (nI b)), (3, .int (nI t))]) hx hb dX3_restFor_3 hl (by decide) rfl (fun ls hl => ?_)
  refine lv_iconst (v := nI 0) hx hb dX3_restFor_5 (by decide) ?_
  refine lv_istore (lv' := [(6, .int (nI 0)), (4, .long 1000), (0, .ref (ad 0)), (1, .int (nI a)), (2, .int (nI b)), (3, .int (nI t))]) hx hb dX3_restFor_6 hl (by decide) rfl (fun ls hl => ?_)
  refine wLoopR (σ := Nat × Int64) (fun k x ls => k = 9 - x.1 ∧ (x.1 ≤ 9) ∧ (rfM (u.2.2.1 10) (u.2.2.1 8) a b (nI t).toInt64 9 0 1000 = rfM (u.2.2.1 10) (u.2.2.1 8) a b (nI t).toInt64 (9 - x.1) x.1 x.2) ∧ lv_has ls 11 [(6, .int (nI x.1)), (4, .long x.2), (1, .int (nI a)), (2, .int (nI b)), (3, .int (nI t)), (0, .ref (ad 0))]) ?_ _ (0, 1000) _ ⟨rfl, (by omega), rfl, lv_sub hl [0, 1, 3, 4, 5, 2] rfl⟩
  intro k x ls hI ih
  obtain ⟨j, z⟩ := x
  obtain ⟨hk, hj, hz, hl⟩ := hI
  have hk : k = 9 - j := hk
  have hj : j ≤ 9 := hj
  have hz : rfM (u.2.2.1 10) (u.2.2.1 8) a b (nI t).toInt64 9 0 1000 = rfM (u.2.2.1 10) (u.2.2.1 8) a b (nI t).toInt64 (9 - j) j z := hz
  have hl : lv_has ls 11 [(6, .int (nI j)), (4, .long z), (1, .int (nI a)), (2, .int (nI b)), (3, .int (nI t)), (0, .ref (ad 0))] := hl
  refine lv_iload hx hb dX3_restFor_8 (lv_at hl 0 rfl) ?_
  refine lv_bipush (v := nI 9) hx hb dX3_restFor_10 (by decide) ?_
  refine wn_icmp_ge (tgt := 101) hx hb dX3_restFor_12 (by decide) (by omega) (by omega) (fun cH => ?_) (fun cH => ?_)
  · refine lv_lload hx hb dX3_restFor_101 (lv_at hl 1 rfl) ?_
    exact W.lret (v := z) hx hb hr (fun t ht hW => ⟨z, rfl, (by rw [hz, show 9 - j = 0 by omega]; rfl), ht⟩) (fun q hq => absurd hq List.not_mem_nil) dX3_restFor_103
  · refine lv_aload_n hx hb dX3_restFor_15 rfl (lv_at hl 5 rfl) ?_
    refine va_get (D := dd) (ci := 5) (v := .ref (ad 10)) (C := RX3) (T := TX3) (N := 15) hx hb hts (fun _ h9 => List.mem_cons_of_mem _ (List.mem_append_left _ (List.mem_append_left _ (List.mem_append_right _ h9)))) hown hK hP 0 (wM_0 cy ad u X) rfl 12 (by decide) (hts (Cond.fieldLink RX3 39 "HeadGridModel" "above" "[J") (List.mem_of_getElem? (i := 2) rfl)) (fun _ h9 => h9) rfl dX3_restFor_16 ?_
    refine lv_iload hx hb dX3_restFor_19 (lv_at hl 0 rfl) ?_
    refine wa_lald hx hb hK hP (wM_10 cy ad u X) (t0 := 1) rfl (i := j) (by omega) (by decide) dX3_restFor_21 ?_
    refine lv_aload_n hx hb dX3_restFor_22 rfl (lv_at hl 5 rfl) ?_
    refine va_get (D := dd) (ci := 5) (v := .ref (ad 8)) (C := RX3) (T := TX3) (N := 15) hx hb hts (fun _ h9 => List.mem_cons_of_mem _ (List.mem_append_left _ (List.mem_append_left _ (List.mem_append_right _ h9)))) hown hK hP 0 (wM_0 cy ad u X) rfl 9 (by decide) (hts (Cond.fieldLink RX3 33 "HeadGridModel" "adjugate" "[J") (List.mem_of_getElem? (i := 3) rfl)) (fun _ h9 => h9) rfl dX3_restFor_23 ?_
    refine lv_bipush (v := nI 9) hx hb dX3_restFor_26 (by decide) ?_
    refine lv_iload hx hb dX3_restFor_28 (lv_at hl 0 rfl) ?_
    refine wn_imul hx hb dX3_restFor_30 ?_
    refine lv_iload_n hx hb dX3_restFor_31 rfl (lv_at hl 2 rfl) ?_
    refine wn_iadd hx hb dX3_restFor_32 ?_
    refine wa_lald hx hb hK hP (wM_8 cy ad u X) (t0 := 1) rfl (i := (9 * j) + a) (by omega) (by decide) dX3_restFor_33 ?_
    refine lv_iload_n hx hb dX3_restFor_34 rfl (lv_at hl 4 rfl) ?_
    refine lv_i2l hx hb dX3_restFor_35 rfl ?_
    refine lv_lmul hx hb dX3_restFor_36 ?_
    refine lv_lsub hx hb dX3_restFor_37 ?_
    refine lv_topl (fun x1 ex1 => ?_)
    refine lv_lstore (lv' := [(7, .long x1), (6, .int (nI j)), (4, .long z), (1, .int (nI a)), (2, .int (nI b)), (3, .int (nI t)), (0, .ref (ad 0))]) hx hb dX3_restFor_38 hl (by decide) rfl (fun ls hl => ?_)
    refine lv_aload_n hx hb dX3_restFor_40 rfl (lv_at hl 6 rfl) ?_
    refine va_get (D := dd) (ci := 5) (v := .ref (ad 8)) (C := RX3) (T := TX3) (N := 15) hx hb hts (fun _ h9 => List.mem_cons_of_mem _ (List.mem_append_left _ (List.mem_append_left _ (List.mem_append_right _ h9)))) hown hK hP 0 (wM_0 cy ad u X) rfl 9 (by decide) (hts (Cond.fieldLink RX3 33 "HeadGridModel" "adjugate" "[J") (List.mem_of_getElem? (i := 3) rfl)) (fun _ h9 => h9) rfl dX3_restFor_41 ?_
    refine lv_bipush (v := nI 9) hx hb dX3_restFor_44 (by decide) ?_
    refine lv_iload hx hb dX3_restFor_46 (lv_at hl 1 rfl) ?_
    refine wn_imul hx hb dX3_restFor_48 ?_
    refine lv_iload_n hx hb dX3_restFor_49 rfl (lv_at hl 4 rfl) ?_
    refine wn_iadd hx hb dX3_restFor_50 ?_
    refine wa_lald hx hb hK hP (wM_8 cy ad u X) (t0 := 1) rfl (i := (9 * j) + b) (by omega) (by decide) dX3_restFor_51 ?_
    refine lv_topl (fun x2 ex2 => ?_)
    refine lv_lstore (lv' := [(9, .long x2), (7, .long x1), (6, .int (nI j)), (4, .long z), (1, .int (nI a)), (2, .int (nI b)), (3, .int (nI t)), (0, .ref (ad 0))]) hx hb dX3_restFor_52 hl (by decide) rfl (fun ls hl => ?_)
    refine lv_lload hx hb dX3_restFor_54 (lv_at hl 1 rfl) ?_
    refine lv_lconst (v := 0) hx hb dX3_restFor_56 rfl ?_
    refine wl_ge (tgt := 65) hx hb dX3_restFor_57 dX3_restFor_58 (by decide) (fun cL => ?_) (fun cL => ?_)
    · refine lv_lload hx hb dX3_restFor_65 (lv_at hl 0 rfl) ?_
      refine lv_lconst (v := 0) hx hb dX3_restFor_67 rfl ?_
      refine wl_le (tgt := 91) hx hb dX3_restFor_68 dX3_restFor_69 (by decide) (fun cO => ?_) (fun cO => ?_)
      · refine lv_lload hx hb dX3_restFor_91 (lv_at hl 3 rfl) ?_
        refine lv_lstore (lv' := [(4, .long z), (9, .long x2), (7, .long x1), (6, .int (nI j)), (1, .int (nI a)), (2, .int (nI b)), (3, .int (nI t)), (0, .ref (ad 0))]) hx hb dX3_restFor_93 hl (by decide) rfl (fun ls hl => ?_)
        refine lv_iinc (v := (nI (j + 1))) (lv' := [(6, .int (nI (j + 1))), (4, .long z), (9, .long x2), (7, .long x1), (1, .int (nI a)), (2, .int (nI b)), (3, .int (nI t)), (0, .ref (ad 0))]) hx hb dX3_restFor_95 hl (k := 3) rfl (nI_1 _) (by decide) rfl (fun ls hl => ?_)
        refine lv_goto (tgt := 8) hx hb dX3_restFor_98 (by decide) ?_
        exact ih (9 - (j + 1)) (j + 1, z) ls (by omega) ⟨rfl, (by omega), (by rw [hz, show 9 - j = (9 - (j + 1)) + 1 by omega, rfM, ← ex1, ← ex2, if_neg (show ¬ x1 < 0 from fun h9 => absurd h9 (by rw [Int64.not_lt]; exact cL)), if_neg (fun h9 => absurd h9.1 (by rw [Int64.not_lt]; exact cO))]), lv_sub hl [0, 1, 4, 5, 6, 7] rfl⟩
      · refine lv_lload hx hb dX3_restFor_72 (lv_at hl 1 rfl) ?_
        refine lv_lload hx hb dX3_restFor_74 (lv_at hl 0 rfl) ?_
        refine lv_ldiv hx hb dX3_restFor_76 (fun h9 => by rw [h9] at cO; exact absurd (Int64.le_refl 0) cO) ?_
        refine lv_lload hx hb dX3_restFor_77 (lv_at hl 3 rfl) ?_
        refine wl_ge (tgt := 91) hx hb dX3_restFor_79 dX3_restFor_80 (by decide) (fun cQ => ?_) (fun cQ => ?_)
        · refine lv_lload hx hb dX3_restFor_91 (lv_at hl 3 rfl) ?_
          refine lv_lstore (lv' := [(4, .long z), (9, .long x2), (7, .long x1), (6, .int (nI j)), (1, .int (nI a)), (2, .int (nI b)), (3, .int (nI t)), (0, .ref (ad 0))]) hx hb dX3_restFor_93 hl (by decide) rfl (fun ls hl => ?_)
          refine lv_iinc (v := (nI (j + 1))) (lv' := [(6, .int (nI (j + 1))), (4, .long z), (9, .long x2), (7, .long x1), (1, .int (nI a)), (2, .int (nI b)), (3, .int (nI t)), (0, .ref (ad 0))]) hx hb dX3_restFor_95 hl (k := 3) rfl (nI_1 _) (by decide) rfl (fun ls hl => ?_)
          refine lv_goto (tgt := 8) hx hb dX3_restFor_98 (by decide) ?_
          exact ih (9 - (j + 1)) (j + 1, z) ls (by omega) ⟨rfl, (by omega), (by rw [hz, show 9 - j = (9 - (j + 1)) + 1 by omega, rfM, ← ex1, ← ex2, if_neg (show ¬ x1 < 0 from fun h9 => absurd h9 (by rw [Int64.not_lt]; exact cL)), if_neg (fun h9 => absurd h9.2 (by rw [Int64.not_lt]; exact cQ))]), lv_sub hl [0, 1, 4, 5, 6, 7] rfl⟩
        · refine lv_lload hx hb dX3_restFor_83 (lv_at hl 1 rfl) ?_
          refine lv_lload hx hb dX3_restFor_85 (lv_at hl 0 rfl) ?_
          refine lv_ldiv hx hb dX3_restFor_87 (fun h9 => by rw [h9] at cO; exact absurd (Int64.le_refl 0) cO) ?_
          refine lv_goto (tgt := 93) hx hb dX3_restFor_88 (by decide) ?_
          refine lv_topl (fun x3 ex3 => ?_)
          refine lv_lstore (lv' := [(4, .long x3), (9, .long x2), (7, .long x1), (6, .int (nI j)), (1, .int (nI a)), (2, .int (nI b)), (3, .int (nI t)), (0, .ref (ad 0))]) hx hb dX3_restFor_93 hl (by decide) rfl (fun ls hl => ?_)
          refine lv_iinc (v := (nI (j + 1))) (lv' := [(6, .int (nI (j + 1))), (4, .long x3), (9, .long x2), (7, .long x1), (1, .int (nI a)), (2, .int (nI b)), (3, .int (nI t)), (0, .ref (ad 0))]) hx hb dX3_restFor_95 hl (k := 3) rfl (nI_1 _) (by decide) rfl (fun ls hl => ?_)
          refine lv_goto (tgt := 8) hx hb dX3_restFor_98 (by decide) ?_
          exact ih (9 - (j + 1)) (j + 1, x3) ls (by omega) ⟨rfl, (by omega), (by rw [ex3, hz, show 9 - j = (9 - (j + 1)) + 1 by omega, rfM, ← ex1, ← ex2, if_neg (show ¬ x1 < 0 from fun h9 => absurd h9 (by rw [Int64.not_lt]; exact cL)), if_pos ⟨by rw [← Int64.not_le]; exact cO, by rw [← Int64.not_le]; exact cQ⟩]), lv_sub hl [0, 1, 4, 5, 6, 7] rfl⟩
    · refine lv_ldc2 hx hb hown (hts _ (List.mem_of_getElem? (i := 4) rfl)) dX3_restFor_61 ?_
      exact W.lret (v := (-1)) hx hb hr (fun t ht hW => ⟨(-1), rfl, (by rw [hz, show 9 - j = (9 - (j + 1)) + 1 by omega, rfM, ← ex1, if_pos (by rw [← Int64.not_le]; exact cL)]), ht⟩) (fun q hq => absurd hq List.not_mem_nil) dX3_restFor_64
theorem hd_X3_isLooseNow : yX3_isLooseNow.cls = RX3 ∧ yX3_isLooseNow.cls ≠ "java/lang/invoke/MethodHandle" ∧ yX3_isLooseNow.cls ≠ "java/lang/invoke/VarHandle" ∧ (parseMethodDescriptor yX3_isLooseNow.desc).map (fun d => d.parameters.length) = some 0 := by decide +kernel
set_option maxHeartbeats 4000000 in
set_option maxRecDepth 100000 in
/-- isLooseNow() -/
theorem c_X3_isLooseNow (l : Launch) (dd : va_G) (cy : Nat → ClassId) (ad : Nat → Nat) (X : va_W) (u : MS)  : Met l yX3_isLooseNow wsX3_isLooseNow ({ frames := 2, cells := 0, slots := 0, locals := 45 }) (va_Pc [.ref (ad 0)] (rdW dd cy (wM cy ad u ++ X))) (vp_Si (fun r => r = bI (lsM u))) 0 0 (fun _ => False) := by
  refine Met.ofW (cc := cX3_isLooseNow) (maxL := 6) (ret := (some .boolean)) (by decide) rfl ?_
  intro p e s m args below meth c s₁ B hml hv
  obtain ⟨rfl, hP, hK⟩ := hv
  have hx := B.exec
  have hb := B.bytes
  have hr := B.returns
  have hts := atoms_spec (ws := wsX3_isLooseNow) B.pre
  have hown : s.vm.findClass RX3 = some m.cls := findClass_of_methodNamed B.named
  have hlocks := B.notSynchronized
  have hl := lv_entry ([.ref (ad 0)]) (n := 6) (Nat.le_of_ble_eq_true rfl)
  rw [lg_entry_eq]
  generalize (lg_sl ([.ref (ad 0)]) ++ List.replicate (6 - (lg_sl ([.ref (ad 0)])).length) Slot.unset).toArray = ls at hl ⊢
  have hl : lv_has ls 6 [(0, .ref (ad 0))] := hl
  refine lv_iconst (v := nI 0) hx hb dX3_isLooseNow_0 (by decide) ?_
  refine lv_istore_n (lv' := [(1, .int (nI 0)), (0, .ref (ad 0))]) hx hb dX3_isLooseNow_1 rfl hl (by decide) rfl (fun ls hl => ?_)
  refine lv_iconst (v := nI 0) hx hb dX3_isLooseNow_2 (by decide) ?_
  refine lv_istore_n (lv' := [(2, .int (nI 0)), (1, .int (nI 0)), (0, .ref (ad 0))]) hx hb dX3_isLooseNow_3 rfl hl (by decide) rfl (fun ls hl => ?_)
  refine wLoopR (σ := Nat × Int32) (fun k x ls => k = 9 - x.1 ∧ (x.1 ≤ 9) ∧ (x.2 = lsR (fun q9 s9 => u.1 1 (lk q9 s9)) x.1) ∧ lv_has ls 6 [(2, .int (nI x.1)), (1, .int x.2), (0, .ref (ad 0))]) ?_ _ (0, nI 0) _ ⟨rfl, (by omega), rfl, lv_sub hl [0, 1, 2] rfl⟩
  intro ko x ls hI iho
  obtain ⟨r0, z⟩ := x
  obtain ⟨hko, hr0, hz, hl⟩ := hI
  have hko : ko = 9 - r0 := hko
  have hr0 : r0 ≤ 9 := hr0
  have hz : z = lsR (fun q9 s9 => u.1 1 (lk q9 s9)) r0 := hz
  have hl : lv_has ls 6 [(2, .int (nI r0)), (1, .int z), (0, .ref (ad 0))] := hl
  refine lv_iload_n hx hb dX3_isLooseNow_4 rfl (lv_at hl 0 rfl) ?_
  refine lv_bipush (v := nI 9) hx hb dX3_isLooseNow_5 (by decide) ?_
  refine wn_icmp_ge (tgt := 95) hx hb dX3_isLooseNow_7 (by decide) (by omega) (by omega) (fun cR => ?_) (fun cR => ?_)
  · refine lv_iload_n hx hb dX3_isLooseNow_95 rfl (lv_at hl 1 rfl) ?_
    refine lv_sipush (v := nI 511) hx hb dX3_isLooseNow_96 (by decide) ?_
    refine lv_icmp_eq (tgt := 106) hx hb dX3_isLooseNow_99 (by decide) (fun cZ => ?_) (fun cZ => ?_)
    · refine lv_iconst (v := nI 0) hx hb dX3_isLooseNow_106 (by decide) ?_
      exact W.zret (v := (nI 0)) hx hb hr rfl (fun t ht hW => ⟨(nI 0), rfl, (by unfold lsM; rw [show r0 = 9 by omega] at hz; rw [← hz]; exact (bI_f (by simpa using cZ)).symm), ht⟩) (fun q hq => absurd hq List.not_mem_nil) dX3_isLooseNow_107
    · refine lv_iconst (v := nI 1) hx hb dX3_isLooseNow_102 (by decide) ?_
      refine lv_goto (tgt := 107) hx hb dX3_isLooseNow_103 (by decide) ?_
      exact W.zret (v := (nI 1)) hx hb hr rfl (fun t ht hW => ⟨(nI 1), rfl, (by unfold lsM; rw [show r0 = 9 by omega] at hz; rw [← hz]; exact (bI_t (by simpa using cZ)).symm), ht⟩) (fun q hq => absurd hq List.not_mem_nil) dX3_isLooseNow_107
  · refine lv_iconst (v := nI 0) hx hb dX3_isLooseNow_10 (by decide) ?_
    refine lv_istore_n (lv' := [(3, .int (nI 0)), (2, .int (nI r0)), (1, .int z), (0, .ref (ad 0))]) hx hb dX3_isLooseNow_11 rfl hl (by decide) rfl (fun ls hl => ?_)
    refine wLoopR (σ := Nat × Int32) (fun k x ls => k = 36 - x.1 ∧ (x.1 ≤ 36) ∧ (x.2 = lsK (fun q9 s9 => u.1 1 (lk q9 s9)) x.1 (lsR (fun q9 s9 => u.1 1 (lk q9 s9)) r0)) ∧ lv_has ls 6 [(3, .int (nI x.1)), (2, .int (nI r0)), (1, .int x.2), (0, .ref (ad 0))]) ?_ _ (0, z) _ ⟨rfl, (by omega), hz, lv_sub hl [0, 1, 2, 3] rfl⟩
    intro ki x ls hI ihi
    obtain ⟨j, z⟩ := x
    obtain ⟨hki, hj, hz, hl⟩ := hI
    have hki : ki = 36 - j := hki
    have hj : j ≤ 36 := hj
    have hz : z = lsK (fun q9 s9 => u.1 1 (lk q9 s9)) j (lsR (fun q9 s9 => u.1 1 (lk q9 s9)) r0) := hz
    have hl : lv_has ls 6 [(3, .int (nI j)), (2, .int (nI r0)), (1, .int z), (0, .ref (ad 0))] := hl
    refine lv_iload_n hx hb dX3_isLooseNow_12 rfl (lv_at hl 0 rfl) ?_
    refine lv_bipush (v := nI 36) hx hb dX3_isLooseNow_13 (by decide) ?_
    refine wn_icmp_ge (tgt := 89) hx hb dX3_isLooseNow_15 (by decide) (by omega) (by omega) (fun cK => ?_) (fun cK => ?_)
    · refine lv_iinc (v := (nI (r0 + 1))) (lv' := [(2, .int (nI (r0 + 1))), (3, .int (nI j)), (1, .int z), (0, .ref (ad 0))]) hx hb dX3_isLooseNow_89 hl (k := 1) rfl (nI_1 _) (by decide) rfl (fun ls hl => ?_)
      refine lv_goto (tgt := 4) hx hb dX3_isLooseNow_92 (by decide) ?_
      exact iho (9 - (r0 + 1)) (r0 + 1, z) ls (by omega) ⟨rfl, (by omega), (by rw [hz, show j = 36 by omega]; rfl), lv_sub hl [0, 2, 3] rfl⟩
    · refine lv_iload_n hx hb dX3_isLooseNow_18 rfl (lv_at hl 0 rfl) ?_
      refine lv_iconst (v := nI 4) hx hb dX3_isLooseNow_19 (by decide) ?_
      refine wn_idiv hx hb dX3_isLooseNow_20 (by omega) (by omega) (by omega) ?_
      refine lv_iload_n hx hb dX3_isLooseNow_21 rfl (lv_at hl 0 rfl) ?_
      refine lv_iconst (v := nI 4) hx hb dX3_isLooseNow_22 (by decide) ?_
      refine wn_irem hx hb dX3_isLooseNow_23 (by omega) (by omega) (by omega) ?_
      refine vp_callSi (va_runS (As := [.int (nI (j / 4)), .int (nI (j % 4))]) (rest := []) ⟨hx, hb, hml, hown, hts⟩ (c_X3_otherOf l (j / 4) (j % 4) (by omega) (by omega)) (va_cwS 2 hts gX3_isLooseNow_X3_otherOf rfl rfl rfl hd_X3_otherOf ⟨Nat.le_of_ble_eq_true rfl, Nat.le_of_ble_eq_true rfl⟩) ⟨fun a U g mk q => q, fun U hU hW => ⟨rfl, trivial⟩⟩ rfl rfl hl.1 rfl (lv_room (Nat.le_of_ble_eq_true rfl)) dX3_isLooseNow_24 ⟨Nat.le_of_ble_eq_true rfl, Nat.le_of_ble_eq_true rfl⟩).run (fun r1 hr1 => ?_)
      have hr1 : r1 = (nI (ot (j / 4) (j % 4))) := hr1
      subst hr1
      have ho2 := ot_lt (c := j / 4) (s := j % 4) (by omega) (by omega)
      refine lv_istore (lv' := [(4, .int (nI (ot (j / 4) (j % 4)))), (3, .int (nI j)), (2, .int (nI r0)), (1, .int z), (0, .ref (ad 0))]) hx hb dX3_isLooseNow_27 hl (by decide) rfl (fun ls hl => ?_)
      refine lv_iload hx hb dX3_isLooseNow_29 (lv_at hl 0 rfl) ?_
      refine lv_bipush (v := nI 9) hx hb dX3_isLooseNow_31 (by decide) ?_
      refine wn_icmp_ge (tgt := 46) hx hb dX3_isLooseNow_33 (by decide) (by omega) (by omega) (fun cE => ?_) (fun cE => ?_)
      · refine lv_iconst (v := nI 1) hx hb dX3_isLooseNow_46 (by decide) ?_
        refine lv_goto (tgt := 51) hx hb dX3_isLooseNow_47 (by decide) ?_
        refine lv_istore (lv' := [(5, .int (nI 1)), (4, .int (nI (ot (j / 4) (j % 4)))), (3, .int (nI j)), (2, .int (nI r0)), (1, .int z), (0, .ref (ad 0))]) hx hb dX3_isLooseNow_51 hl (by decide) rfl (fun ls hl => ?_)
        refine lv_iload_n hx hb dX3_isLooseNow_53 rfl (lv_at hl 4 rfl) ?_
        refine lv_iload hx hb dX3_isLooseNow_54 (lv_at hl 0 rfl) ?_
        refine wn_if_eq (tgt := 80) hx hb dX3_isLooseNow_56 (by decide) (by omega) (fun c3 => absurd c3 (by decide)) (fun _ => ?_)
        refine lv_aload_n hx hb dX3_isLooseNow_59 rfl (lv_at hl 5 rfl) ?_
        refine lv_iload_n hx hb dX3_isLooseNow_60 rfl (lv_at hl 2 rfl) ?_
        refine lv_iconst (v := nI 4) hx hb dX3_isLooseNow_61 (by decide) ?_
        refine wn_idiv hx hb dX3_isLooseNow_62 (by omega) (by omega) (by omega) ?_
        refine lv_iload_n hx hb dX3_isLooseNow_63 rfl (lv_at hl 2 rfl) ?_
        refine lv_iconst (v := nI 4) hx hb dX3_isLooseNow_64 (by decide) ?_
        refine wn_irem hx hb dX3_isLooseNow_65 (by omega) (by omega) (by omega) ?_
        refine vp_callSi (va_runV (As := [.int (nI (j / 4)), .int (nI (j % 4))]) (rest := [.int z]) ⟨hx, hb, hml, hown, hts⟩ (c_X3_conductanceOf l dd cy ad X u (j / 4) (j % 4) (by omega) (by omega)) (cwV 2 hts gX3_isLooseNow_X3_conductanceOf rfl rfl rfl hd_X3_conductanceOf ⟨Nat.le_of_ble_eq_true rfl, Nat.le_of_ble_eq_true rfl⟩) (rdW_V hP hK (wM_0 cy ad u X) rfl) rfl rfl hl.1 rfl (lv_room (Nat.le_of_ble_eq_true rfl)) dX3_isLooseNow_66 ⟨Nat.le_of_ble_eq_true rfl, Nat.le_of_ble_eq_true rfl⟩).run (fun r4 hr4 => ?_)
        have hr4 : r4 = (u.1 1 (lk (j / 4) (j % 4))) := hr4
        subst hr4
        refine lv_if_le (tgt := 80) hx hb dX3_isLooseNow_69 (by decide) (fun cC => ?_) (fun cC => ?_)
        · refine lv_iconst (v := nI 0) hx hb dX3_isLooseNow_80 (by decide) ?_
          refine lv_ior hx hb dX3_isLooseNow_81 ?_
          refine lv_topi (fun x5 ex5 => ?_)
          refine lv_istore_n (lv' := [(1, .int x5), (5, .int (nI 1)), (4, .int (nI (ot (j / 4) (j % 4)))), (3, .int (nI j)), (2, .int (nI r0)), (0, .ref (ad 0))]) hx hb dX3_isLooseNow_82 rfl hl (by decide) rfl (fun ls hl => ?_)
          refine lv_iinc (v := (nI (j + 1))) (lv' := [(3, .int (nI (j + 1))), (1, .int x5), (5, .int (nI 1)), (4, .int (nI (ot (j / 4) (j % 4)))), (2, .int (nI r0)), (0, .ref (ad 0))]) hx hb dX3_isLooseNow_83 hl (k := 3) rfl (nI_1 _) (by decide) rfl (fun ls hl => ?_)
          refine lv_goto (tgt := 12) hx hb dX3_isLooseNow_86 (by decide) ?_
          exact ihi (36 - (j + 1)) (j + 1, x5) ls (by omega) ⟨rfl, (by omega), (by rw [ex5, lsK, ← hz, lsS, if_neg (fun h9 => absurd h9.2 (by rw [Int32.not_lt]; exact cC))]), lv_sub hl [0, 4, 1, 5] rfl⟩
        · refine lv_iconst (v := nI 1) hx hb dX3_isLooseNow_72 (by decide) ?_
          refine lv_iload_n hx hb dX3_isLooseNow_73 rfl (lv_at hl 2 rfl) ?_
          refine lv_iconst (v := nI 4) hx hb dX3_isLooseNow_74 (by decide) ?_
          refine wn_idiv hx hb dX3_isLooseNow_75 (by omega) (by omega) (by omega) ?_
          refine lv_ishl hx hb dX3_isLooseNow_76 ?_
          refine lv_goto (tgt := 81) hx hb dX3_isLooseNow_77 (by decide) ?_
          refine lv_ior hx hb dX3_isLooseNow_81 ?_
          refine lv_topi (fun x6 ex6 => ?_)
          refine lv_istore_n (lv' := [(1, .int x6), (5, .int (nI 1)), (4, .int (nI (ot (j / 4) (j % 4)))), (3, .int (nI j)), (2, .int (nI r0)), (0, .ref (ad 0))]) hx hb dX3_isLooseNow_82 rfl hl (by decide) rfl (fun ls hl => ?_)
          refine lv_iinc (v := (nI (j + 1))) (lv' := [(3, .int (nI (j + 1))), (1, .int x6), (5, .int (nI 1)), (4, .int (nI (ot (j / 4) (j % 4)))), (2, .int (nI r0)), (0, .ref (ad 0))]) hx hb dX3_isLooseNow_83 hl (k := 3) rfl (nI_1 _) (by decide) rfl (fun ls hl => ?_)
          refine lv_goto (tgt := 12) hx hb dX3_isLooseNow_86 (by decide) ?_
          exact ihi (36 - (j + 1)) (j + 1, x6) ls (by omega) ⟨rfl, (by omega), (by rw [ex6, lsK, ← hz, lsS, if_pos ⟨Or.inl cE, Int32.not_le.mp cC⟩]), lv_sub hl [0, 4, 1, 5] rfl⟩
      · refine lv_iload_n hx hb dX3_isLooseNow_36 rfl (lv_at hl 3 rfl) ?_
        refine lv_iload hx hb dX3_isLooseNow_37 (lv_at hl 0 rfl) ?_
        refine lv_ishr hx hb dX3_isLooseNow_39 ?_
        refine lv_iconst (v := nI 1) hx hb dX3_isLooseNow_40 (by decide) ?_
        refine lv_iand hx hb dX3_isLooseNow_41 ?_
        refine lv_iconst (v := nI 1) hx hb dX3_isLooseNow_42 (by decide) ?_
        refine lv_icmp_ne (tgt := 50) hx hb dX3_isLooseNow_43 (by decide) (fun cB => ?_) (fun cB => ?_)
        · refine lv_iconst (v := nI 0) hx hb dX3_isLooseNow_50 (by decide) ?_
          refine lv_istore (lv' := [(5, .int (nI 0)), (4, .int (nI (ot (j / 4) (j % 4)))), (3, .int (nI j)), (2, .int (nI r0)), (1, .int z), (0, .ref (ad 0))]) hx hb dX3_isLooseNow_51 hl (by decide) rfl (fun ls hl => ?_)
          refine lv_iload_n hx hb dX3_isLooseNow_53 rfl (lv_at hl 4 rfl) ?_
          refine lv_iload hx hb dX3_isLooseNow_54 (lv_at hl 0 rfl) ?_
          refine wn_if_eq (tgt := 80) hx hb dX3_isLooseNow_56 (by decide) (by omega) (fun _ => ?_) (fun c7 => absurd (by decide) c7)
          refine lv_iconst (v := nI 0) hx hb dX3_isLooseNow_80 (by decide) ?_
          refine lv_ior hx hb dX3_isLooseNow_81 ?_
          refine lv_topi (fun x8 ex8 => ?_)
          refine lv_istore_n (lv' := [(1, .int x8), (5, .int (nI 0)), (4, .int (nI (ot (j / 4) (j % 4)))), (3, .int (nI j)), (2, .int (nI r0)), (0, .ref (ad 0))]) hx hb dX3_isLooseNow_82 rfl hl (by decide) rfl (fun ls hl => ?_)
          refine lv_iinc (v := (nI (j + 1))) (lv' := [(3, .int (nI (j + 1))), (1, .int x8), (5, .int (nI 0)), (4, .int (nI (ot (j / 4) (j % 4)))), (2, .int (nI r0)), (0, .ref (ad 0))]) hx hb dX3_isLooseNow_83 hl (k := 3) rfl (nI_1 _) (by decide) rfl (fun ls hl => ?_)
          refine lv_goto (tgt := 12) hx hb dX3_isLooseNow_86 (by decide) ?_
          exact ihi (36 - (j + 1)) (j + 1, x8) ls (by omega) ⟨rfl, (by omega), (by rw [ex8, lsK, ← hz, lsS, if_neg (fun h9 => h9.1.elim (fun q => absurd q cE) (fun q => absurd q cB))]), lv_sub hl [0, 4, 1, 5] rfl⟩
        · refine lv_iconst (v := nI 1) hx hb dX3_isLooseNow_46 (by decide) ?_
          refine lv_goto (tgt := 51) hx hb dX3_isLooseNow_47 (by decide) ?_
          refine lv_istore (lv' := [(5, .int (nI 1)), (4, .int (nI (ot (j / 4) (j % 4)))), (3, .int (nI j)), (2, .int (nI r0)), (1, .int z), (0, .ref (ad 0))]) hx hb dX3_isLooseNow_51 hl (by decide) rfl (fun ls hl => ?_)
          refine lv_iload_n hx hb dX3_isLooseNow_53 rfl (lv_at hl 4 rfl) ?_
          refine lv_iload hx hb dX3_isLooseNow_54 (lv_at hl 0 rfl) ?_
          refine wn_if_eq (tgt := 80) hx hb dX3_isLooseNow_56 (by decide) (by omega) (fun c9 => absurd c9 (by decide)) (fun _ => ?_)
          refine lv_aload_n hx hb dX3_isLooseNow_59 rfl (lv_at hl 5 rfl) ?_
          refine lv_iload_n hx hb dX3_isLooseNow_60 rfl (lv_at hl 2 rfl) ?_
          refine lv_iconst (v := nI 4) hx hb dX3_isLooseNow_61 (by decide) ?_
          refine wn_idiv hx hb dX3_isLooseNow_62 (by omega) (by omega) (by omega) ?_
          refine lv_iload_n hx hb dX3_isLooseNow_63 rfl (lv_at hl 2 rfl) ?_
          refine lv_iconst (v := nI 4) hx hb dX3_isLooseNow_64 (by decide) ?_
          refine wn_irem hx hb dX3_isLooseNow_65 (by omega) (by omega) (by omega) ?_
          refine vp_callSi (va_runV (As := [.int (nI (j / 4)), .int (nI (j % 4))]) (rest := [.int z]) ⟨hx, hb, hml, hown, hts⟩ (c_X3_conductanceOf l dd cy ad X u (j / 4) (j % 4) (by omega) (by omega)) (cwV 2 hts gX3_isLooseNow_X3_conductanceOf rfl rfl rfl hd_X3_conductanceOf ⟨Nat.le_of_ble_eq_true rfl, Nat.le_of_ble_eq_true rfl⟩) (rdW_V hP hK (wM_0 cy ad u X) rfl) rfl rfl hl.1 rfl (lv_room (Nat.le_of_ble_eq_true rfl)) dX3_isLooseNow_66 ⟨Nat.le_of_ble_eq_true rfl, Nat.le_of_ble_eq_true rfl⟩).run (fun r10 hr10 => ?_)
          have hr10 : r10 = (u.1 1 (lk (j / 4) (j % 4))) := hr10
          subst hr10
          refine lv_if_le (tgt := 80) hx hb dX3_isLooseNow_69 (by decide) (fun cC => ?_) (fun cC => ?_)
          · refine lv_iconst (v := nI 0) hx hb dX3_isLooseNow_80 (by decide) ?_
            refine lv_ior hx hb dX3_isLooseNow_81 ?_
            refine lv_topi (fun x11 ex11 => ?_)
            refine lv_istore_n (lv' := [(1, .int x11), (5, .int (nI 1)), (4, .int (nI (ot (j / 4) (j % 4)))), (3, .int (nI j)), (2, .int (nI r0)), (0, .ref (ad 0))]) hx hb dX3_isLooseNow_82 rfl hl (by decide) rfl (fun ls hl => ?_)
            refine lv_iinc (v := (nI (j + 1))) (lv' := [(3, .int (nI (j + 1))), (1, .int x11), (5, .int (nI 1)), (4, .int (nI (ot (j / 4) (j % 4)))), (2, .int (nI r0)), (0, .ref (ad 0))]) hx hb dX3_isLooseNow_83 hl (k := 3) rfl (nI_1 _) (by decide) rfl (fun ls hl => ?_)
            refine lv_goto (tgt := 12) hx hb dX3_isLooseNow_86 (by decide) ?_
            exact ihi (36 - (j + 1)) (j + 1, x11) ls (by omega) ⟨rfl, (by omega), (by rw [ex11, lsK, ← hz, lsS, if_neg (fun h9 => absurd h9.2 (by rw [Int32.not_lt]; exact cC))]), lv_sub hl [0, 4, 1, 5] rfl⟩
          · refine lv_iconst (v := nI 1) hx hb dX3_isLooseNow_72 (by decide) ?_
            refine lv_iload_n hx hb dX3_isLooseNow_73 rfl (lv_at hl 2 rfl) ?_
            refine lv_iconst (v := nI 4) hx hb dX3_isLooseNow_74 (by decide) ?_
            refine wn_idiv hx hb dX3_isLooseNow_75 (by omega) (by omega) (by omega) ?_
            refine lv_ishl hx hb dX3_isLooseNow_76 ?_
            refine lv_goto (tgt := 81) hx hb dX3_isLooseNow_77 (by decide) ?_
            refine lv_ior hx hb dX3_isLooseNow_81 ?_
            refine lv_topi (fun x12 ex12 => ?_)
            refine lv_istore_n (lv' := [(1, .int x12), (5, .int (nI 1)), (4, .int (nI (ot (j / 4) (j % 4)))), (3, .int (nI j)), (2, .int (nI r0)), (0, .ref (ad 0))]) hx hb dX3_isLooseNow_82 rfl hl (by decide) rfl (fun ls hl => ?_)
            refine lv_iinc (v := (nI (j + 1))) (lv' := [(3, .int (nI (j + 1))), (1, .int x12), (5, .int (nI 1)), (4, .int (nI (ot (j / 4) (j % 4)))), (2, .int (nI r0)), (0, .ref (ad 0))]) hx hb dX3_isLooseNow_83 hl (k := 3) rfl (nI_1 _) (by decide) rfl (fun ls hl => ?_)
            refine lv_goto (tgt := 12) hx hb dX3_isLooseNow_86 (by decide) ?_
            exact ihi (36 - (j + 1)) (j + 1, x12) ls (by omega) ⟨rfl, (by omega), (by rw [ex12, lsK, ← hz, lsS, if_pos ⟨Or.inr cB, Int32.not_le.mp cC⟩]), lv_sub hl [0, 4, 1, 5] rfl⟩

/-! the reference: determinant, looseness, extremes, dry cells, greatest rates -/
/-- the extreme cell among the first n + 1; the cells below levels; head above limits and loss for a set of wells -/
def exF (hd : Nat → Int64) (hi : Bool) : Nat → Nat
  | 0 => 0
  | n + 1 => if (if hi then hd (exF hd hi n) < hd (n + 1) else hd (n + 1) < hd (exF hd hi n)) then n + 1 else exF hd hi n
theorem exF_le (hd : Nat → Int64) (hi : Bool) : ∀ n, exF hd hi n ≤ n
  | 0 => Nat.le_refl 0
  | n + 1 => by rw [exF]; have := exF_le hd hi n; (repeat' split) <;> omega
theorem exF_t {hd : Nat → Int64} {hi : Bool} {n : Nat} (h : hi = true) : exF hd hi (n + 1) = if hd (exF hd hi n) < hd (n + 1) then n + 1 else exF hd hi n := by rw [exF, h]; rfl
theorem exF_f {hd : Nat → Int64} {hi : Bool} {n : Nat} (h : hi = false) : exF hd hi (n + 1) = if hd (n + 1) < hd (exF hd hi n) then n + 1 else exF hd hi n := by rw [exF, h]; rfl
theorem exF_congr {f g : Nat → Int64} {hi : Bool} : ∀ {n : Nat}, (∀ k, k ≤ n → f k = g k) → exF f hi n = exF g hi n
  | 0, _ => rfl
  | n + 1, h => by rw [exF, exF, exF_congr (fun k hk => h k (by omega)), h (n + 1) (Nat.le_refl _), h (exF g hi n) (by have := exF_le g hi n; omega)]
def bwF (hd : Nat → Int64) (lv : Nat → Int32) (w : Int64) : Nat → Int32
  | 0 => nI 0
  | n + 1 => bwF hd lv w n ||| (if hd n < (lv n).toInt64 * w then nI 1 <<< (nI n &&& 31) else nI 0)
theorem bwF_congr {f g : Nat → Int64} {lv : Nat → Int32} {w : Int64} : ∀ {n : Nat}, (∀ k, k < n → f k = g k) → bwF f lv w n = bwF g lv w n
  | 0, _ => rfl
  | n + 1, h => by rw [bwF, bwF, bwF_congr (fun k hk => h k (by omega)), h n (by omega)]
def abF (hd adj : Nat → Int64) (w : Int64) (now : Nat → Int32) (S i : Nat) : Nat → Int64
  | 0 => hd i - (now (63 + i)).toInt64 * w
  | j + 1 => if S.testBit j = true then abF hd adj w now S i j + adj (9 * i + j) * (now (45 + j)).toInt64 else abF hd adj w now S i j
def byF (adj : Nat → Int64) (S i : Nat) : Nat → Int64
  | 0 => 0
  | j + 1 => if S.testBit j = true then byF adj S i j + adj (9 * i + j) else byF adj S i j
def isF (ab : Nat → Int64) : Nat → Bool
  | 0 => true
  | i + 1 => isF ab i && decide (0 ≤ ab i)
def gmF (ab by0 : Nat → Int64) : Nat → Int64
  | 0 => 1000
  | i + 1 => if 0 < by0 i ∧ ab i / by0 i < gmF ab by0 i then ab i / by0 i else gmF ab by0 i
def laO (hd adj : Nat → Int64) (w : Int64) (now : Nat → Int32) (S i : Nat) (f10 f11 : Nat → Int64) : Prop := ∀ a, a < i → f10 a = abF hd adj w now S a 9 ∧ f11 a = byF adj S a 9
def laI (hd adj : Nat → Int64) (w : Int64) (now : Nat → Int32) (S i j : Nat) (f10 f11 : Nat → Int64) : Prop := (∀ a, a < i → f10 a = abF hd adj w now S a 9 ∧ f11 a = byF adj S a 9) ∧ f10 i = abF hd adj w now S i j ∧ f11 i = byF adj S i j
theorem laI_0 {hd adj : Nat → Int64} {w : Int64} {now : Nat → Int32} {S i : Nat} {f10 f11 : Nat → Int64} (h : laO hd adj w now S i f10 f11) : laI hd adj w now S i 0 (vp_updL f10 i (hd i - (now (63 + i)).toInt64 * w)) (vp_updL f11 i 0) := by
  refine ⟨fun a ha => ?_, if_pos rfl, if_pos rfl⟩
  unfold vp_updL
  rw [if_neg (by omega), if_neg (by omega)]
  exact h a ha
theorem laI_skip {hd adj : Nat → Int64} {w : Int64} {now : Nat → Int32} {S i j : Nat} {f10 f11 : Nat → Int64} (h : laI hd adj w now S i j f10 f11) (hb : S.testBit j = false) : laI hd adj w now S i (j + 1) f10 f11 :=
  ⟨h.1, by rw [abF, hb]; exact h.2.1, by rw [byF, hb]; exact h.2.2⟩
theorem laI_take {hd adj : Nat → Int64} {w : Int64} {now : Nat → Int32} {S i j : Nat} {f10 f11 : Nat → Int64} (h : laI hd adj w now S i j f10 f11) (hb : S.testBit j = true) : laI hd adj w now S i (j + 1) (vp_updL f10 i (f10 i + adj (9 * i + j) * (now (45 + j)).toInt64)) (vp_updL f11 i (f11 i + adj (9 * i + j))) := by
  refine ⟨fun a ha => ?_, ?_, ?_⟩
  · unfold vp_updL
    rw [if_neg (by omega), if_neg (by omega)]
    exact h.1 a ha
  · unfold vp_updL
    rw [if_pos rfl, abF, if_pos hb, h.2.1]
  · unfold vp_updL
    rw [if_pos rfl, byF, if_pos hb, h.2.2]
theorem laI_n {hd adj : Nat → Int64} {w : Int64} {now : Nat → Int32} {S i : Nat} {f10 f11 : Nat → Int64} (h : laI hd adj w now S i 9 f10 f11) : laO hd adj w now S (i + 1) f10 f11 := by
  intro a ha
  by_cases e : a = i
  · rw [e]; exact h.2
  · exact h.1 a (by omega)
theorem isF_congr {f g : Nat → Int64} : ∀ {n : Nat}, (∀ k, k < n → f k = g k) → isF f n = isF g n
  | 0, _ => rfl
  | n + 1, h => by rw [isF, isF, isF_congr (fun k hk => h k (by omega)), h n (by omega)]
theorem gmF_congr {f g f2 g2 : Nat → Int64} : ∀ {n : Nat}, (∀ k, k < n → f k = g k ∧ f2 k = g2 k) → gmF f f2 n = gmF g g2 n
  | 0, _ => rfl
  | n + 1, h => by rw [gmF, gmF, gmF_congr (fun k hk => h k (by omega)), (h n (by omega)).1, (h n (by omega)).2]
theorem abF_congr {hd hd' adj adj' : Nat → Int64} {w : Int64} {now : Nat → Int32} {S i : Nat} (h1 : hd i = hd' i) (h2 : ∀ j, j < 9 → adj (9 * i + j) = adj' (9 * i + j)) : ∀ {j : Nat}, j ≤ 9 → abF hd adj w now S i j = abF hd' adj' w now S i j
  | 0, _ => by rw [abF, abF, h1]
  | j + 1, hj => by rw [abF, abF, abF_congr h1 h2 (by omega), h2 j (by omega)]
theorem byF_congr {adj adj' : Nat → Int64} {S i : Nat} (h2 : ∀ j, j < 9 → adj (9 * i + j) = adj' (9 * i + j)) : ∀ {j : Nat}, j ≤ 9 → byF adj S i j = byF adj' S i j
  | 0, _ => rfl
  | j + 1, hj => by rw [byF, byF, byF_congr h2 (by omega), h2 j (by omega)]
theorem bI_and {a b : Bool} {z : Int32} (hz : z = bI a) : (b = true → z = bI (a && b)) ∧ (b = false → nI 0 = bI (a && b)) := by
  refine ⟨fun h => by rw [h, Bool.and_true]; exact hz, fun h => by rw [h, Bool.and_false]; rfl⟩
theorem hd_X3_influence : yX3_influence.cls = RX3 ∧ yX3_influence.cls ≠ "java/lang/invoke/MethodHandle" ∧ yX3_influence.cls ≠ "java/lang/invoke/VarHandle" ∧ (parseMethodDescriptor yX3_influence.desc).map (fun d => d.parameters.length) = some 3 := by decide +kernel
set_option maxHeartbeats 4000000 in
set_option maxRecDepth 100000 in
/-- influence(i, j, part) -/
theorem c_X3_influence (l : Launch) (dd : va_G) (cy : Nat → ClassId) (ad : Nat → Nat) (X : va_W) (u : MS) (sz : Nat) (i j part : Int32) (hg : GM (u.1 1)) : Met l yX3_influence wsX3_influence ({ frames := 5, cells := 0, slots := 0, locals := 116 }) (va_Pc [.ref (ad 0), .int i, .int j, .int part] (wrW dd cy (wM cy ad u ++ X) sz)) (va_Ql (fun r u9 => u9.2.2.2.2.1 = nI (lkT (inR i (nI 0) (nI 8) && inR j (nI 0) (nI 8)) part (lsM u)) ∧ u9.1 = u.1 ∧ u9.2.1 = u.2.1 ∧ u9.2.2.2.1 = u.2.2.2.1 ∧ ((lkT (inR i (nI 0) (nI 8) && inR j (nI 0) (nI 8)) part (lsM u)) = 0 → r = ptF (u.1 1) ((cn (u.1 1)).2.2.1 8 (9 * i.toNatClampNeg + j.toNatClampNeg)) part)) (wB dd cy (fun u9 : MS => wM cy ad u9 ++ X) (va_A (wM cy ad u ++ X) sz)) (va_A (wM cy ad u ++ X) sz)) 0 0 (va_A (wM cy ad u ++ X) sz) := by
  refine Met.ofW (cc := cX3_influence) (maxL := 4) (ret := (some .long)) (by decide) rfl ?_
  intro p e s m args below meth c s₁ B hml hv
  obtain ⟨rfl, hsz, hP, hK, hD0⟩ := hv
  have hx := B.exec
  have hb := B.bytes
  have hr := B.returns
  have hts := atoms_spec (ws := wsX3_influence) B.pre
  have hown : s.vm.findClass RX3 = some m.cls := findClass_of_methodNamed B.named
  have hlocks := B.notSynchronized
  subst hsz
  have hD := hD0.self (sz := s.heap.size)
  generalize hAe : va_A (wM cy ad u ++ X) s.heap.size = A at hD ⊢
  have hA : ∀ q : Nat, s.heap.size ≤ q → A q := fun q h => by rw [← hAe]; exact Or.inr h
  have hS : va_S A s.heap s.heap [] := va_S.rf
  have hl := lv_entry ([.ref (ad 0), .int i, .int j, .int part]) (n := 4) (Nat.le_of_ble_eq_true rfl)
  rw [lg_entry_eq]
  generalize (lg_sl ([.ref (ad 0), .int i, .int j, .int part]) ++ List.replicate (4 - (lg_sl ([.ref (ad 0), .int i, .int j, .int part])).length) Slot.unset).toArray = ls at hl ⊢
  have hl : lv_has ls 4 [(0, .ref (ad 0)), (1, .int i), (2, .int j), (3, .int part)] := hl
  refine lv_aload_n hx hb dX3_influence_0 rfl (lv_at hl 0 rfl) ?_
  refine lv_iload_n hx hb dX3_influence_1 rfl (lv_at hl 1 rfl) ?_
  refine vp_callSi (va_runS (As := [.int i]) (rest := [.ref (ad 0)]) ⟨hx, hb, hml, hown, hts⟩ (c_X3_isCell l i) (va_cwS 1 hts gX3_influence_X3_isCell rfl rfl rfl hd_X3_isCell ⟨Nat.le_of_ble_eq_true rfl, Nat.le_of_ble_eq_true rfl⟩) ⟨fun a U g mk q => q, fun U hU hW => ⟨rfl, trivial⟩⟩ rfl rfl hl.1 rfl (lv_room (Nat.le_of_ble_eq_true rfl)) dX3_influence_2 ⟨Nat.le_of_ble_eq_true rfl, Nat.le_of_ble_eq_true rfl⟩).run (fun r1 hr1 => ?_)
  have hr1 : r1 = bI (inR i (nI 0) (nI 8)) := hr1
  subst hr1
  refine wb_if_eq (tgt := 19) hx hb dX3_influence_5 (by decide) (fun cI => ?_) (fun cI => ?_)
  · refine lv_iconst (v := nI 0) hx hb dX3_influence_19 (by decide) ?_
    refine lv_iload_n hx hb dX3_influence_20 rfl (lv_at hl 3 rfl) ?_
    refine wc_calli (va_runV (As := [.int (bI false), .int part]) (rest := []) ⟨hx, hb, hml, hown, hts⟩ (c_X3_lacks l dd cy ad X u _ false part hg) (cwV 2 hts gX3_influence_X3_lacks rfl rfl rfl hd_X3_lacks ⟨Nat.le_of_ble_eq_true rfl, Nat.le_of_ble_eq_true rfl⟩) (wrW_V hP hK hD (wM_0 cy ad u X) rfl) rfl rfl hl.1 rfl (lv_room (Nat.le_of_ble_eq_true rfl)) dX3_influence_21 ⟨Nat.le_of_ble_eq_true rfl, Nat.le_of_ble_eq_true rfl⟩) hD hS hA (fun r2 us3 H locs w4 hP hD hS => ?_)
    obtain ⟨hr2, hth, hf1, hf2, hf3, hsv⟩ := w4
    by_cases h0 : (lkT false part (lsM u)) = 0
    · have hr2 : r2 = nI 0 := by rw [hr2]; simp [h0]; rfl
      subst hr2
      have hsv := hsv h0
      exact absurd h0 (by unfold lkT; simp)
    · have hr2 : r2 = nI 1 := by rw [hr2]; simp [h0]; rfl
      subst hr2
      refine wn_if_eq (tgt := 31) hx hb dX3_influence_24 (by decide) (by omega) (fun c5 => (by first | exact absurd c5 (by decide) | exact absurd (by decide) c5)) (fun _ => ?_)
      refine lv_lconst (v := 0) hx hb dX3_influence_27 rfl ?_
      refine lv_goto (tgt := 47) hx hb dX3_influence_28 (by decide) ?_
      exact W.lret (v := 0) hx hb hr (fun t ht hW => ⟨⟨0, us3, rfl, (by rw [show (inR i (nI 0) (nI 8) && inR j (nI 0) (nI 8)) = false from by rw [cI]; rfl]; exact ⟨hth, hf1, hf2, hf3, fun q9 => absurd q9 h0⟩), by rw [ht]; exact hP, va_K.moved hW.alike hK, hD⟩, hS.F ht⟩) hS.2.2 dX3_influence_47
  · refine lv_iload_n hx hb dX3_influence_8 rfl (lv_at hl 2 rfl) ?_
    refine vp_callSi (va_runS (As := [.int j]) (rest := [.ref (ad 0)]) ⟨hx, hb, hml, hown, hts⟩ (c_X3_isCell l j) (va_cwS 1 hts gX3_influence_X3_isCell rfl rfl rfl hd_X3_isCell ⟨Nat.le_of_ble_eq_true rfl, Nat.le_of_ble_eq_true rfl⟩) ⟨fun a U g mk q => q, fun U hU hW => ⟨rfl, trivial⟩⟩ rfl rfl hl.1 rfl (lv_room (Nat.le_of_ble_eq_true rfl)) dX3_influence_9 ⟨Nat.le_of_ble_eq_true rfl, Nat.le_of_ble_eq_true rfl⟩).run (fun r6 hr6 => ?_)
    have hr6 : r6 = bI (inR j (nI 0) (nI 8)) := hr6
    subst hr6
    refine wb_if_eq (tgt := 19) hx hb dX3_influence_12 (by decide) (fun cJ => ?_) (fun cJ => ?_)
    · refine lv_iconst (v := nI 0) hx hb dX3_influence_19 (by decide) ?_
      refine lv_iload_n hx hb dX3_influence_20 rfl (lv_at hl 3 rfl) ?_
      refine wc_calli (va_runV (As := [.int (bI false), .int part]) (rest := []) ⟨hx, hb, hml, hown, hts⟩ (c_X3_lacks l dd cy ad X u _ false part hg) (cwV 2 hts gX3_influence_X3_lacks rfl rfl rfl hd_X3_lacks ⟨Nat.le_of_ble_eq_true rfl, Nat.le_of_ble_eq_true rfl⟩) (wrW_V hP hK hD (wM_0 cy ad u X) rfl) rfl rfl hl.1 rfl (lv_room (Nat.le_of_ble_eq_true rfl)) dX3_influence_21 ⟨Nat.le_of_ble_eq_true rfl, Nat.le_of_ble_eq_true rfl⟩) hD hS hA (fun r7 us8 H locs w9 hP hD hS => ?_)
      obtain ⟨hr7, hth, hf1, hf2, hf3, hsv⟩ := w9
      by_cases h0 : (lkT false part (lsM u)) = 0
      · have hr7 : r7 = nI 0 := by rw [hr7]; simp [h0]; rfl
        subst hr7
        have hsv := hsv h0
        exact absurd h0 (by unfold lkT; simp)
      · have hr7 : r7 = nI 1 := by rw [hr7]; simp [h0]; rfl
        subst hr7
        refine wn_if_eq (tgt := 31) hx hb dX3_influence_24 (by decide) (by omega) (fun c10 => (by first | exact absurd c10 (by decide) | exact absurd (by decide) c10)) (fun _ => ?_)
        refine lv_lconst (v := 0) hx hb dX3_influence_27 rfl ?_
        refine lv_goto (tgt := 47) hx hb dX3_influence_28 (by decide) ?_
        exact W.lret (v := 0) hx hb hr (fun t ht hW => ⟨⟨0, us8, rfl, (by rw [show (inR i (nI 0) (nI 8) && inR j (nI 0) (nI 8)) = false from by rw [cI, cJ]; rfl]; exact ⟨hth, hf1, hf2, hf3, fun q9 => absurd q9 h0⟩), by rw [ht]; exact hP, va_K.moved hW.alike hK, hD⟩, hS.F ht⟩) hS.2.2 dX3_influence_47
    · refine lv_iconst (v := nI 1) hx hb dX3_influence_15 (by decide) ?_
      refine lv_goto (tgt := 20) hx hb dX3_influence_16 (by decide) ?_
      refine lv_iload_n hx hb dX3_influence_20 rfl (lv_at hl 3 rfl) ?_
      refine wc_calli (va_runV (As := [.int (bI true), .int part]) (rest := []) ⟨hx, hb, hml, hown, hts⟩ (c_X3_lacks l dd cy ad X u _ true part hg) (cwV 2 hts gX3_influence_X3_lacks rfl rfl rfl hd_X3_lacks ⟨Nat.le_of_ble_eq_true rfl, Nat.le_of_ble_eq_true rfl⟩) (wrW_V hP hK hD (wM_0 cy ad u X) rfl) rfl rfl hl.1 rfl (lv_room (Nat.le_of_ble_eq_true rfl)) dX3_influence_21 ⟨Nat.le_of_ble_eq_true rfl, Nat.le_of_ble_eq_true rfl⟩) hD hS hA (fun r11 us12 H locs w13 hP hD hS => ?_)
      obtain ⟨hr11, hth, hf1, hf2, hf3, hsv⟩ := w13
      by_cases h0 : (lkT true part (lsM u)) = 0
      · have hr11 : r11 = nI 0 := by rw [hr11]; simp [h0]; rfl
        subst hr11
        have hsv := hsv h0
        have hin : inR part (nI 0) (nI 1) = true ∧ lsM u = false := by unfold lkT at h0; revert h0; cases h2 : inR part (nI 0) (nI 1) <;> cases h3 : lsM u <;> simp
        have hG := hg ((lsM_iff u).mp hin.2)
        obtain ⟨c0, hc0, ec0⟩ := inR_nat (n := 8) (by decide) cI
        obtain ⟨d0, hd0, ed0⟩ := inR_nat (n := 8) (by decide) cJ
        obtain ⟨pt, hpt, ept⟩ := inR_nat (n := 1) (by decide) hin.1
        have hl : lv_has ls 4 [(0, .ref (ad 0)), (1, .int (nI c0)), (2, .int (nI d0)), (3, .int (nI pt))] := by rw [← ec0, ← ed0, ← ept]; exact hl
        refine wn_if_eq (tgt := 31) hx hb dX3_influence_24 (by decide) (by omega) (fun _ => ?_) (fun c14 => (by first | exact absurd (by decide) c14 | exact absurd c14 (by decide)))
        refine lv_aload_n hx hb dX3_influence_31 rfl (lv_at hl 0 rfl) ?_
        refine lv_aload_n hx hb dX3_influence_32 rfl (lv_at hl 0 rfl) ?_
        refine va_get (D := dd) (ci := 5) (v := .ref (ad 8)) (C := RX3) (T := TX3) (N := 15) hx hb hts (fun _ h9 => List.mem_cons_of_mem _ (List.mem_append_left _ (List.mem_append_left _ (List.mem_append_right _ h9)))) hown hK hP 0 (wM_0 cy ad us12 X) rfl 9 (by decide) (hts (Cond.fieldLink RX3 33 "HeadGridModel" "adjugate" "[J") (List.mem_of_getElem? (i := 1) rfl)) (fun _ h9 => h9) rfl dX3_influence_33 ?_
        refine lv_bipush (v := nI 9) hx hb dX3_influence_36 (by decide) ?_
        refine lv_iload_n hx hb dX3_influence_38 rfl (lv_at hl 1 rfl) ?_
        refine wn_imul hx hb dX3_influence_39 ?_
        refine lv_iload_n hx hb dX3_influence_40 rfl (lv_at hl 2 rfl) ?_
        refine wn_iadd hx hb dX3_influence_41 ?_
        refine wa_lald hx hb hK hP (wM_8 cy ad us12 X) (t0 := 1) rfl (i := (9 * c0) + d0) (by omega) (by decide) dX3_influence_42 ?_
        refine lv_iload_n hx hb dX3_influence_43 rfl (lv_at hl 3 rfl) ?_
        have hwh : lN (det 9 (AM (u.1 1))).toNat = us12.2.2.2.2.2.1 := by rw [hsv.1]; exact (ofI_nat (Int.le_of_lt hG.2.1.1)).symm
        refine vp_callSl (va_runV (As := [.long (us12.2.2.1 8 ((9 * c0) + d0)), .int (nI pt)]) (rest := []) ⟨hx, hb, hml, hown, hts⟩ (c_X3_partOf l dd cy ad X us12 (us12.2.2.1 8 ((9 * c0) + d0)) pt (det 9 (AM (u.1 1))).toNat (by rw [sv_8 hsv (by omega) (by omega)]; exact hG.2.2.2.2.2.1 c0 (by omega) d0 (by omega)) hwh (by have := hG.2.1; omega) (by have := hG.2.1; omega) (by omega)) (cwV 2 hts gX3_influence_X3_partOf rfl rfl rfl hd_X3_partOf ⟨Nat.le_of_ble_eq_true rfl, Nat.le_of_ble_eq_true rfl⟩) (rdW_V hP hK (wM_0 cy ad us12 X) rfl) rfl rfl hl.1 rfl (lv_room (Nat.le_of_ble_eq_true rfl)) dX3_influence_44 ⟨Nat.le_of_ble_eq_true rfl, Nat.le_of_ble_eq_true rfl⟩).run (fun r15 hr15 => ?_)
        exact W.lret (v := r15) hx hb hr (fun t ht hW => ⟨⟨r15, us12, rfl, (by rw [show (inR i (nI 0) (nI 8) && inR j (nI 0) (nI 8)) = true from by rw [cI, cJ]; rfl]; exact ⟨hth, hf1, hf2, hf3, fun _ => by rw [show r15 = _ from hr15, sv_8 hsv (by omega) (by omega)]; unfold ptF; rw [ept, pt_if (by omega), ec0, ed0, nI_clamp (by omega), nI_clamp (by omega)]⟩), by rw [ht]; exact hP, va_K.moved hW.alike hK, hD⟩, hS.F ht⟩) hS.2.2 dX3_influence_47
      · have hr11 : r11 = nI 1 := by rw [hr11]; simp [h0]; rfl
        subst hr11
        refine wn_if_eq (tgt := 31) hx hb dX3_influence_24 (by decide) (by omega) (fun c16 => (by first | exact absurd c16 (by decide) | exact absurd (by decide) c16)) (fun _ => ?_)
        refine lv_lconst (v := 0) hx hb dX3_influence_27 rfl ?_
        refine lv_goto (tgt := 47) hx hb dX3_influence_28 (by decide) ?_
        exact W.lret (v := 0) hx hb hr (fun t ht hW => ⟨⟨0, us12, rfl, (by rw [show (inR i (nI 0) (nI 8) && inR j (nI 0) (nI 8)) = true from by rw [cI, cJ]; rfl]; exact ⟨hth, hf1, hf2, hf3, fun q9 => absurd q9 h0⟩), by rw [ht]; exact hP, va_K.moved hW.alike hK, hD⟩, hS.F ht⟩) hS.2.2 dX3_influence_47
theorem hd_X3_determinant : yX3_determinant.cls = RX3 ∧ yX3_determinant.cls ≠ "java/lang/invoke/MethodHandle" ∧ yX3_determinant.cls ≠ "java/lang/invoke/VarHandle" ∧ (parseMethodDescriptor yX3_determinant.desc).map (fun d => d.parameters.length) = some 0 := by decide +kernel
set_option maxHeartbeats 4000000 in
set_option maxRecDepth 100000 in
/-- determinant() -/
theorem c_X3_determinant (l : Launch) (dd : va_G) (cy : Nat → ClassId) (ad : Nat → Nat) (X : va_W) (u : MS) (sz : Nat)  : Met l yX3_determinant wsX3_determinant ({ frames := 4, cells := 0, slots := 0, locals := 89 }) (va_Pc [.ref (ad 0)] (wrW dd cy (wM cy ad u ++ X) sz)) (va_Ql (fun r u9 => r = Int64.ofInt (det 9 (AM (u.1 1))) ∧ u9.2.2.2.2.1 = nI 0 ∧ u9.1 = u.1 ∧ u9.2.1 = u.2.1 ∧ u9.2.2.2.1 = u.2.2.2.1) (wB dd cy (fun u9 : MS => wM cy ad u9 ++ X) (va_A (wM cy ad u ++ X) sz)) (va_A (wM cy ad u ++ X) sz)) 0 0 (va_A (wM cy ad u ++ X) sz) := by
  refine Met.ofW (cc := cX3_determinant) (maxL := 1) (ret := (some .long)) (by decide) rfl ?_
  intro p e s m args below meth c s₁ B hml hv
  obtain ⟨rfl, hsz, hP, hK, hD0⟩ := hv
  have hx := B.exec
  have hb := B.bytes
  have hr := B.returns
  have hts := atoms_spec (ws := wsX3_determinant) B.pre
  have hown : s.vm.findClass RX3 = some m.cls := findClass_of_methodNamed B.named
  have hlocks := B.notSynchronized
  subst hsz
  have hD := hD0.self (sz := s.heap.size)
  generalize hAe : va_A (wM cy ad u ++ X) s.heap.size = A at hD ⊢
  have hA : ∀ q : Nat, s.heap.size ≤ q → A q := fun q h => by rw [← hAe]; exact Or.inr h
  have hS : va_S A s.heap s.heap [] := va_S.rf
  have hl := lv_entry ([.ref (ad 0)]) (n := 1) (Nat.le_of_ble_eq_true rfl)
  rw [lg_entry_eq]
  generalize (lg_sl ([.ref (ad 0)]) ++ List.replicate (1 - (lg_sl ([.ref (ad 0)])).length) Slot.unset).toArray = ls at hl ⊢
  have hl : lv_has ls 1 [(0, .ref (ad 0))] := hl
  refine lv_aload_n hx hb dX3_determinant_0 rfl (lv_at hl 0 rfl) ?_
  refine lv_iconst (v := nI 0) hx hb dX3_determinant_1 (by decide) ?_
  refine va_put (D := dd) (ci := 5) (v := .int (nI 0)) (ty := .int) (C := RX3) (T := TX3) (N := 15) hx hb hts (fun _ h9 => List.mem_cons_of_mem _ (List.mem_append_left _ (List.mem_append_right _ h9))) tyX3 tyX3_ok nmX3 hown hK hP hD hS 0 (wM_0 cy ad u X) rfl 5 (by decide) (hts (Cond.fieldLink RX3 45 "HeadGridModel" "thrown" "I") (List.mem_of_getElem? (i := 1) rfl)) (fun _ h9 => h9) rfl (tyX3_ok 5 (by decide)) rfl rfl (Nat.le_of_ble_eq_true rfl) dX3_determinant_2 (fun H locs hP hD hS => ?_)
  have hP : va_P dd vwCl (wM cy ad (u.1, u.2.1, u.2.2.1, u.2.2.2.1, (nI 0), u.2.2.2.2.2) ++ X) H := hP
  have hD : va_D A (wM cy ad (u.1, u.2.1, u.2.2.1, u.2.2.2.1, (nI 0), u.2.2.2.2.2) ++ X) := hD
  obtain ⟨us1, hus1⟩ : ∃ z9z : MS, z9z = (u.1, u.2.1, u.2.2.1, u.2.2.2.1, (nI 0), u.2.2.2.2.2) := ⟨_, rfl⟩
  rw [← hus1] at hP hD
  have pus1_1 : us1.1 = u.1 := by rw [hus1]
  have pus1_21 : us1.2.1 = u.2.1 := by rw [hus1]
  have pus1_221 : us1.2.2.1 = u.2.2.1 := by rw [hus1]
  have pus1_kept : us1.2.2.2.1 = u.2.2.2.1 := by rw [hus1]
  have h_thrown : (nI 0) = us1.2.2.2.2.1 := by rw [hus1]
  have pus1_whole : us1.2.2.2.2.2.1 = u.2.2.2.2.2.1 := by rw [hus1]
  have pus1_hash : us1.2.2.2.2.2.2 = u.2.2.2.2.2.2 := by rw [hus1]
  have qus1_1 : us1.1 = u.1 := pus1_1.trans rfl
  have qus1_21 : us1.2.1 = u.2.1 := pus1_21.trans rfl
  have qus1_k : us1.2.2.2.1 = u.2.2.2.1 := pus1_kept.trans rfl
  refine lv_aload_n hx hb dX3_determinant_5 rfl (lv_at hl 0 rfl) ?_
  refine wc_calll (va_runV (As := []) (rest := []) ⟨hx, hb, hml, hown, hts⟩ (c_X3_determinantNow l dd cy ad X us1 _) (cwV 0 hts gX3_determinant_X3_determinantNow rfl rfl rfl hd_X3_determinantNow ⟨Nat.le_of_ble_eq_true rfl, Nat.le_of_ble_eq_true rfl⟩) (wrW_V hP hK hD (wM_0 cy ad us1 X) rfl) rfl rfl hl.1 rfl (lv_room (Nat.le_of_ble_eq_true rfl)) dX3_determinant_6 ⟨Nat.le_of_ble_eq_true rfl, Nat.le_of_ble_eq_true rfl⟩) hD hS hA (fun r2 us3 H locs w4 hP hD hS => ?_)
  obtain ⟨er2, hfD, htD, hhD⟩ := w4
  exact W.lret (v := r2) hx hb hr (fun t ht hW => ⟨⟨r2, us3, rfl, ⟨by rw [er2, qus1_1], by rw [htD]; exact h_thrown.symm, hfD.1.trans qus1_1, hfD.2.1.trans qus1_21, hfD.2.2.trans qus1_k⟩, by rw [ht]; exact hP, va_K.moved hW.alike hK, hD⟩, hS.F ht⟩) hS.2.2 dX3_determinant_9
theorem hd_X3_isLoose : yX3_isLoose.cls = RX3 ∧ yX3_isLoose.cls ≠ "java/lang/invoke/MethodHandle" ∧ yX3_isLoose.cls ≠ "java/lang/invoke/VarHandle" ∧ (parseMethodDescriptor yX3_isLoose.desc).map (fun d => d.parameters.length) = some 0 := by decide +kernel
set_option maxHeartbeats 4000000 in
set_option maxRecDepth 100000 in
/-- isLoose() -/
theorem c_X3_isLoose (l : Launch) (dd : va_G) (cy : Nat → ClassId) (ad : Nat → Nat) (X : va_W) (u : MS) (sz : Nat)  : Met l yX3_isLoose wsX3_isLoose ({ frames := 3, cells := 0, slots := 0, locals := 70 }) (va_Pc [.ref (ad 0)] (wrW dd cy (wM cy ad u ++ X) sz)) (va_Qi (fun r u9 => r = bI (lsM u) ∧ u9.2.2.2.2.1 = nI 0 ∧ u9.1 = u.1 ∧ u9.2.1 = u.2.1 ∧ u9.2.2.2.1 = u.2.2.2.1) (wB dd cy (fun u9 : MS => wM cy ad u9 ++ X) (va_A (wM cy ad u ++ X) sz)) (va_A (wM cy ad u ++ X) sz)) 0 0 (va_A (wM cy ad u ++ X) sz) := by
  refine Met.ofW (cc := cX3_isLoose) (maxL := 1) (ret := (some .boolean)) (by decide) rfl ?_
  intro p e s m args below meth c s₁ B hml hv
  obtain ⟨rfl, hsz, hP, hK, hD0⟩ := hv
  have hx := B.exec
  have hb := B.bytes
  have hr := B.returns
  have hts := atoms_spec (ws := wsX3_isLoose) B.pre
  have hown : s.vm.findClass RX3 = some m.cls := findClass_of_methodNamed B.named
  have hlocks := B.notSynchronized
  subst hsz
  have hD := hD0.self (sz := s.heap.size)
  generalize hAe : va_A (wM cy ad u ++ X) s.heap.size = A at hD ⊢
  have hA : ∀ q : Nat, s.heap.size ≤ q → A q := fun q h => by rw [← hAe]; exact Or.inr h
  have hS : va_S A s.heap s.heap [] := va_S.rf
  have hl := lv_entry ([.ref (ad 0)]) (n := 1) (Nat.le_of_ble_eq_true rfl)
  rw [lg_entry_eq]
  generalize (lg_sl ([.ref (ad 0)]) ++ List.replicate (1 - (lg_sl ([.ref (ad 0)])).length) Slot.unset).toArray = ls at hl ⊢
  have hl : lv_has ls 1 [(0, .ref (ad 0))] := hl
  refine lv_aload_n hx hb dX3_isLoose_0 rfl (lv_at hl 0 rfl) ?_
  refine lv_iconst (v := nI 0) hx hb dX3_isLoose_1 (by decide) ?_
  refine va_put (D := dd) (ci := 5) (v := .int (nI 0)) (ty := .int) (C := RX3) (T := TX3) (N := 15) hx hb hts (fun _ h9 => List.mem_cons_of_mem _ (List.mem_append_left _ (List.mem_append_right _ h9))) tyX3 tyX3_ok nmX3 hown hK hP hD hS 0 (wM_0 cy ad u X) rfl 5 (by decide) (hts (Cond.fieldLink RX3 45 "HeadGridModel" "thrown" "I") (List.mem_of_getElem? (i := 1) rfl)) (fun _ h9 => h9) rfl (tyX3_ok 5 (by decide)) rfl rfl (Nat.le_of_ble_eq_true rfl) dX3_isLoose_2 (fun H locs hP hD hS => ?_)
  have hP : va_P dd vwCl (wM cy ad (u.1, u.2.1, u.2.2.1, u.2.2.2.1, (nI 0), u.2.2.2.2.2) ++ X) H := hP
  have hD : va_D A (wM cy ad (u.1, u.2.1, u.2.2.1, u.2.2.2.1, (nI 0), u.2.2.2.2.2) ++ X) := hD
  obtain ⟨us1, hus1⟩ : ∃ z9z : MS, z9z = (u.1, u.2.1, u.2.2.1, u.2.2.2.1, (nI 0), u.2.2.2.2.2) := ⟨_, rfl⟩
  rw [← hus1] at hP hD
  have pus1_1 : us1.1 = u.1 := by rw [hus1]
  have pus1_21 : us1.2.1 = u.2.1 := by rw [hus1]
  have pus1_221 : us1.2.2.1 = u.2.2.1 := by rw [hus1]
  have pus1_kept : us1.2.2.2.1 = u.2.2.2.1 := by rw [hus1]
  have h_thrown : (nI 0) = us1.2.2.2.2.1 := by rw [hus1]
  have pus1_whole : us1.2.2.2.2.2.1 = u.2.2.2.2.2.1 := by rw [hus1]
  have pus1_hash : us1.2.2.2.2.2.2 = u.2.2.2.2.2.2 := by rw [hus1]
  have qus1_1 : us1.1 = u.1 := pus1_1.trans rfl
  have qus1_21 : us1.2.1 = u.2.1 := pus1_21.trans rfl
  have qus1_k : us1.2.2.2.1 = u.2.2.2.1 := pus1_kept.trans rfl
  refine lv_aload_n hx hb dX3_isLoose_5 rfl (lv_at hl 0 rfl) ?_
  refine vp_callSi (va_runV (As := []) (rest := []) ⟨hx, hb, hml, hown, hts⟩ (c_X3_isLooseNow l dd cy ad X us1 ) (cwV 0 hts gX3_isLoose_X3_isLooseNow rfl rfl rfl hd_X3_isLooseNow ⟨Nat.le_of_ble_eq_true rfl, Nat.le_of_ble_eq_true rfl⟩) (rdW_V hP hK (wM_0 cy ad us1 X) rfl) rfl rfl hl.1 rfl (lv_room (Nat.le_of_ble_eq_true rfl)) dX3_isLoose_6 ⟨Nat.le_of_ble_eq_true rfl, Nat.le_of_ble_eq_true rfl⟩).run (fun r2 hr2 => ?_)
  have hr2 : r2 = bI (lsM us1) := hr2
  subst hr2
  exact W.zret (v := bI (lsM us1)) hx hb hr (narrow_bI _) (fun t ht hW => ⟨⟨bI (lsM us1), us1, rfl, ⟨by rw [lsM_congr qus1_1], h_thrown.symm, qus1_1, qus1_21, qus1_k⟩, by rw [ht]; exact hP, va_K.moved hW.alike hK, hD⟩, hS.F ht⟩) hS.2.2 dX3_isLoose_9
theorem hd_X3_isSolved : yX3_isSolved.cls = RX3 ∧ yX3_isSolved.cls ≠ "java/lang/invoke/MethodHandle" ∧ yX3_isSolved.cls ≠ "java/lang/invoke/VarHandle" ∧ (parseMethodDescriptor yX3_isSolved.desc).map (fun d => d.parameters.length) = some 0 := by decide +kernel
set_option maxHeartbeats 4000000 in
set_option maxRecDepth 100000 in
/-- isSolved() -/
theorem c_X3_isSolved (l : Launch) (dd : va_G) (cy : Nat → ClassId) (ad : Nat → Nat) (X : va_W) (u : MS) (sz : Nat) (hg : GM (u.1 1)) : Met l yX3_isSolved wsX3_isSolved ({ frames := 4, cells := 0, slots := 0, locals := 94 }) (va_Pc [.ref (ad 0)] (wrW dd cy (wM cy ad u ++ X) sz)) (va_Qi (fun r u9 => r = bI (!lsM u) ∧ u9.2.2.2.2.1 = nI (if lsM u then 1 else 0) ∧ u9.1 = u.1 ∧ u9.2.1 = u.2.1 ∧ u9.2.2.2.1 = u.2.2.2.1 ∧ (lsM u = false → svd (u.1 1) u9)) (wB dd cy (fun u9 : MS => wM cy ad u9 ++ X) (va_A (wM cy ad u ++ X) sz)) (va_A (wM cy ad u ++ X) sz)) 0 0 (va_A (wM cy ad u ++ X) sz) := by
  refine Met.ofW (cc := cX3_isSolved) (maxL := 1) (ret := (some .boolean)) (by decide) rfl ?_
  intro p e s m args below meth c s₁ B hml hv
  obtain ⟨rfl, hsz, hP, hK, hD0⟩ := hv
  have hx := B.exec
  have hb := B.bytes
  have hr := B.returns
  have hts := atoms_spec (ws := wsX3_isSolved) B.pre
  have hown : s.vm.findClass RX3 = some m.cls := findClass_of_methodNamed B.named
  have hlocks := B.notSynchronized
  subst hsz
  have hD := hD0.self (sz := s.heap.size)
  generalize hAe : va_A (wM cy ad u ++ X) s.heap.size = A at hD ⊢
  have hA : ∀ q : Nat, s.heap.size ≤ q → A q := fun q h => by rw [← hAe]; exact Or.inr h
  have hS : va_S A s.heap s.heap [] := va_S.rf
  have hl := lv_entry ([.ref (ad 0)]) (n := 1) (Nat.le_of_ble_eq_true rfl)
  rw [lg_entry_eq]
  generalize (lg_sl ([.ref (ad 0)]) ++ List.replicate (1 - (lg_sl ([.ref (ad 0)])).length) Slot.unset).toArray = ls at hl ⊢
  have hl : lv_has ls 1 [(0, .ref (ad 0))] := hl
  refine lv_aload_n hx hb dX3_isSolved_0 rfl (lv_at hl 0 rfl) ?_
  refine lv_aload_n hx hb dX3_isSolved_1 rfl (lv_at hl 0 rfl) ?_
  have g4 : GM (u.1 1) := by rw [show u.1 = u.1 from rfl]; exact hg
  refine wc_calli (va_runV (As := []) (rest := [.ref (ad 0)]) ⟨hx, hb, hml, hown, hts⟩ (c_X3_solves l dd cy ad X u _ (fun q9 => (g4 ((lsM_iff u).mp q9)).1)) (cwV 0 hts gX3_isSolved_X3_solves rfl rfl rfl hd_X3_solves ⟨Nat.le_of_ble_eq_true rfl, Nat.le_of_ble_eq_true rfl⟩) (wrW_V hP hK hD (wM_0 cy ad u X) rfl) rfl rfl hl.1 rfl (lv_room (Nat.le_of_ble_eq_true rfl)) dX3_isSolved_2 ⟨Nat.le_of_ble_eq_true rfl, Nat.le_of_ble_eq_true rfl⟩) hD hS hA (fun r1 us2 H locs w3 hP hD hS => ?_)
  have hls9 : lsM u = lsM u := lsM_congr rfl
  rcases Bool.eq_false_or_eq_true (lsM u) with hlo | hlo
  · obtain ⟨hr1, e9⟩ := w3.1 (hls9.trans hlo)
    subst hr1
    rw [e9] at hP hD
    refine wn_if_eq (tgt := 12) hx hb dX3_isSolved_5 (by decide) (by omega) (fun _ => ?_) (fun c5 => (by first | exact absurd (by decide) c5 | exact absurd c5 (by decide)))
    refine lv_iconst (v := nI 1) hx hb dX3_isSolved_12 (by decide) ?_
    refine va_put (D := dd) (ci := 5) (v := .int (nI 1)) (ty := .int) (C := RX3) (T := TX3) (N := 15) hx hb hts (fun _ h9 => List.mem_cons_of_mem _ (List.mem_append_left _ (List.mem_append_right _ h9))) tyX3 tyX3_ok nmX3 hown hK hP hD hS 0 (wM_0 cy ad u X) rfl 5 (by decide) (hts (Cond.fieldLink RX3 45 "HeadGridModel" "thrown" "I") (List.mem_of_getElem? (i := 1) rfl)) (fun _ h9 => h9) rfl (tyX3_ok 5 (by decide)) rfl rfl (Nat.le_of_ble_eq_true rfl) dX3_isSolved_13 (fun H locs hP hD hS => ?_)
    have hP : va_P dd vwCl (wM cy ad (u.1, u.2.1, u.2.2.1, u.2.2.2.1, (nI 1), u.2.2.2.2.2) ++ X) H := hP
    have hD : va_D A (wM cy ad (u.1, u.2.1, u.2.2.1, u.2.2.2.1, (nI 1), u.2.2.2.2.2) ++ X) := hD
    obtain ⟨us6, hus6⟩ : ∃ z9z : MS, z9z = (u.1, u.2.1, u.2.2.1, u.2.2.2.1, (nI 1), u.2.2.2.2.2) := ⟨_, rfl⟩
    rw [← hus6] at hP hD
    have pus6_1 : us6.1 = u.1 := by rw [hus6]
    have pus6_21 : us6.2.1 = u.2.1 := by rw [hus6]
    have pus6_221 : us6.2.2.1 = u.2.2.1 := by rw [hus6]
    have pus6_kept : us6.2.2.2.1 = u.2.2.2.1 := by rw [hus6]
    have h_thrown : (nI 1) = us6.2.2.2.2.1 := by rw [hus6]
    have pus6_whole : us6.2.2.2.2.2.1 = u.2.2.2.2.2.1 := by rw [hus6]
    have pus6_hash : us6.2.2.2.2.2.2 = u.2.2.2.2.2.2 := by rw [hus6]
    have qus6_1 : us6.1 = u.1 := pus6_1.trans rfl
    have qus6_21 : us6.2.1 = u.2.1 := pus6_21.trans rfl
    have qus6_k : us6.2.2.2.1 = u.2.2.2.1 := pus6_kept.trans rfl
    refine lv_aload_n hx hb dX3_isSolved_16 rfl (lv_at hl 0 rfl) ?_
    refine va_get (D := dd) (ci := 5) (v := .int (nI 1)) (C := RX3) (T := TX3) (N := 15) hx hb hts (fun _ h9 => List.mem_cons_of_mem _ (List.mem_append_left _ (List.mem_append_right _ h9))) hown hK hP 0 (wM_0 cy ad us6 X) rfl 5 (by decide) (hts (Cond.fieldLink RX3 45 "HeadGridModel" "thrown" "I") (List.mem_of_getElem? (i := 1) rfl)) (fun _ h9 => h9) (by rw [h_thrown]; rfl) dX3_isSolved_17 ?_
    refine wn_if_ne (tgt := 27) hx hb dX3_isSolved_20 (by decide) (by omega) (fun _ => ?_) (fun c7 => (by first | exact absurd (by decide) c7 | exact absurd c7 (by decide)))
    refine lv_iconst (v := nI 0) hx hb dX3_isSolved_27 (by decide) ?_
    exact W.zret (v := (nI 0)) hx hb hr rfl (fun t ht hW => ⟨⟨(nI 0), us6, rfl, (by rw [hlo]; exact ⟨rfl, h_thrown.symm, qus6_1, qus6_21, qus6_k, fun q9 => absurd q9 (by decide)⟩), by rw [ht]; exact hP, va_K.moved hW.alike hK, hD⟩, hS.F ht⟩) hS.2.2 dX3_isSolved_28
  · obtain ⟨hr1, hfs, hth, hhs, hsv⟩ := w3.2 (hls9.trans hlo)
    subst hr1
    have hf1 : us2.1 = u.1 := hfs.1.trans rfl
    have hsv : svd (u.1 1) us2 := hsv
    have hf21 : us2.2.1 = u.2.1 := hfs.2.1.trans rfl
    have hfk : us2.2.2.2.1 = u.2.2.2.1 := hfs.2.2.trans rfl
    refine wn_if_eq (tgt := 12) hx hb dX3_isSolved_5 (by decide) (by omega) (fun c8 => (by first | exact absurd c8 (by decide) | exact absurd (by decide) c8)) (fun _ => ?_)
    refine lv_iconst (v := nI 0) hx hb dX3_isSolved_8 (by decide) ?_
    refine lv_goto (tgt := 13) hx hb dX3_isSolved_9 (by decide) ?_
    refine va_put (D := dd) (ci := 5) (v := .int (nI 0)) (ty := .int) (C := RX3) (T := TX3) (N := 15) hx hb hts (fun _ h9 => List.mem_cons_of_mem _ (List.mem_append_left _ (List.mem_append_right _ h9))) tyX3 tyX3_ok nmX3 hown hK hP hD hS 0 (wM_0 cy ad us2 X) rfl 5 (by decide) (hts (Cond.fieldLink RX3 45 "HeadGridModel" "thrown" "I") (List.mem_of_getElem? (i := 1) rfl)) (fun _ h9 => h9) rfl (tyX3_ok 5 (by decide)) rfl rfl (Nat.le_of_ble_eq_true rfl) dX3_isSolved_13 (fun H locs hP hD hS => ?_)
    have hP : va_P dd vwCl (wM cy ad (us2.1, us2.2.1, us2.2.2.1, us2.2.2.2.1, (nI 0), us2.2.2.2.2.2) ++ X) H := hP
    have hD : va_D A (wM cy ad (us2.1, us2.2.1, us2.2.2.1, us2.2.2.2.1, (nI 0), us2.2.2.2.2.2) ++ X) := hD
    obtain ⟨us9, hus9⟩ : ∃ z9z : MS, z9z = (us2.1, us2.2.1, us2.2.2.1, us2.2.2.2.1, (nI 0), us2.2.2.2.2.2) := ⟨_, rfl⟩
    rw [← hus9] at hP hD
    have pus9_1 : us9.1 = us2.1 := by rw [hus9]
    have pus9_21 : us9.2.1 = us2.2.1 := by rw [hus9]
    have pus9_221 : us9.2.2.1 = us2.2.2.1 := by rw [hus9]
    have pus9_kept : us9.2.2.2.1 = us2.2.2.2.1 := by rw [hus9]
    have h_thrown : (nI 0) = us9.2.2.2.2.1 := by rw [hus9]
    have pus9_whole : us9.2.2.2.2.2.1 = us2.2.2.2.2.2.1 := by rw [hus9]
    have pus9_hash : us9.2.2.2.2.2.2 = us2.2.2.2.2.2.2 := by rw [hus9]
    have qus9_1 : us9.1 = u.1 := pus9_1.trans hf1
    have qus9_21 : us9.2.1 = u.2.1 := pus9_21.trans hf21
    have qus9_k : us9.2.2.2.1 = u.2.2.2.1 := pus9_kept.trans hfk
    refine lv_aload_n hx hb dX3_isSolved_16 rfl (lv_at hl 0 rfl) ?_
    refine va_get (D := dd) (ci := 5) (v := .int (nI 0)) (C := RX3) (T := TX3) (N := 15) hx hb hts (fun _ h9 => List.mem_cons_of_mem _ (List.mem_append_left _ (List.mem_append_right _ h9))) hown hK hP 0 (wM_0 cy ad us9 X) rfl 5 (by decide) (hts (Cond.fieldLink RX3 45 "HeadGridModel" "thrown" "I") (List.mem_of_getElem? (i := 1) rfl)) (fun _ h9 => h9) (by rw [h_thrown]; rfl) dX3_isSolved_17 ?_
    refine wn_if_ne (tgt := 27) hx hb dX3_isSolved_20 (by decide) (by omega) (fun c10 => (by first | exact absurd c10 (by decide) | exact absurd (by decide) c10)) (fun _ => ?_)
    refine lv_iconst (v := nI 1) hx hb dX3_isSolved_23 (by decide) ?_
    refine lv_goto (tgt := 28) hx hb dX3_isSolved_24 (by decide) ?_
    exact W.zret (v := (nI 1)) hx hb hr rfl (fun t ht hW => ⟨⟨(nI 1), us9, rfl, (by rw [hlo]; exact ⟨rfl, h_thrown.symm, qus9_1, qus9_21, qus9_k, fun _ => ⟨by rw [pus9_whole]; exact hsv.1, fun a9 ha9 b9 hb9 => by rw [pus9_221]; exact hsv.2.1 a9 ha9 b9 hb9, fun a9 ha9 => by rw [pus9_221]; exact hsv.2.2 a9 ha9⟩⟩), by rw [ht]; exact hP, va_K.moved hW.alike hK, hD⟩, hS.F ht⟩) hS.2.2 dX3_isSolved_28
theorem hd_X3_extreme : yX3_extreme.cls = RX3 ∧ yX3_extreme.cls ≠ "java/lang/invoke/MethodHandle" ∧ yX3_extreme.cls ≠ "java/lang/invoke/VarHandle" ∧ (parseMethodDescriptor yX3_extreme.desc).map (fun d => d.parameters.length) = some 1 := by decide +kernel
set_option maxHeartbeats 4000000 in
set_option maxRecDepth 100000 in
/-- extreme(highest) -/
theorem c_X3_extreme (l : Launch) (dd : va_G) (cy : Nat → ClassId) (ad : Nat → Nat) (X : va_W) (u : MS) (sz : Nat) (hi : Bool) (hg : GM (u.1 1)) : Met l yX3_extreme wsX3_extreme ({ frames := 5, cells := 0, slots := 0, locals := 114 }) (va_Pc [.ref (ad 0), .int (bI hi)] (wrW dd cy (wM cy ad u ++ X) sz)) (va_Qi (fun r u9 => u9.2.2.2.2.1 = nI (if lsM u then 1 else 0) ∧ u9.1 = u.1 ∧ u9.2.1 = u.2.1 ∧ u9.2.2.2.1 = u.2.2.2.1 ∧ (lsM u = false → r = nI (exF ((cn (u.1 1)).2.2.1 9) hi 8))) (wB dd cy (fun u9 : MS => wM cy ad u9 ++ X) (va_A (wM cy ad u ++ X) sz)) (va_A (wM cy ad u ++ X) sz)) 0 0 (va_A (wM cy ad u ++ X) sz) := by
  refine Met.ofW (cc := cX3_extreme) (maxL := 4) (ret := (some .int)) (by decide) rfl ?_
  intro p e s m args below meth c s₁ B hml hv
  obtain ⟨rfl, hsz, hP, hK, hD0⟩ := hv
  have hx := B.exec
  have hb := B.bytes
  have hr := B.returns
  have hts := atoms_spec (ws := wsX3_extreme) B.pre
  have hown : s.vm.findClass RX3 = some m.cls := findClass_of_methodNamed B.named
  have hlocks := B.notSynchronized
  subst hsz
  have hD := hD0.self (sz := s.heap.size)
  generalize hAe : va_A (wM cy ad u ++ X) s.heap.size = A at hD ⊢
  have hA : ∀ q : Nat, s.heap.size ≤ q → A q := fun q h => by rw [← hAe]; exact Or.inr h
  have hS : va_S A s.heap s.heap [] := va_S.rf
  have hl := lv_entry ([.ref (ad 0), .int (bI hi)]) (n := 4) (Nat.le_of_ble_eq_true rfl)
  rw [lg_entry_eq]
  generalize (lg_sl ([.ref (ad 0), .int (bI hi)]) ++ List.replicate (4 - (lg_sl ([.ref (ad 0), .int (bI hi)])).length) Slot.unset).toArray = ls at hl ⊢
  have hl : lv_has ls 4 [(0, .ref (ad 0)), (1, .int (bI hi))] := hl
  refine lv_aload_n hx hb dX3_extreme_0 rfl (lv_at hl 0 rfl) ?_
  refine wc_calli (va_runV (As := []) (rest := []) ⟨hx, hb, hml, hown, hts⟩ (c_X3_isSolved l dd cy ad X u _ hg) (cwV 0 hts gX3_extreme_X3_isSolved rfl rfl rfl hd_X3_isSolved ⟨Nat.le_of_ble_eq_true rfl, Nat.le_of_ble_eq_true rfl⟩) (wrW_V hP hK hD (wM_0 cy ad u X) rfl) rfl rfl hl.1 rfl (lv_room (Nat.le_of_ble_eq_true rfl)) dX3_extreme_1 ⟨Nat.le_of_ble_eq_true rfl, Nat.le_of_ble_eq_true rfl⟩) hD hS hA (fun r1 us2 H locs w3 hP hD hS => ?_)
  obtain ⟨hr1, hth, hf1, hf2, hf3, hsv⟩ := w3
  rcases Bool.eq_false_or_eq_true (lsM u) with hlo | hlo
  · have hr1 : r1 = nI 0 := by rw [hr1, hlo]; rfl
    subst hr1
    rw [hlo] at hth
    refine wn_if_ne (tgt := 9) hx hb dX3_extreme_4 (by decide) (by omega) (fun c4 => (by first | exact absurd c4 (by decide) | exact absurd (by decide) c4)) (fun _ => ?_)
    refine lv_iconst (v := nI 0) hx hb dX3_extreme_7 (by decide) ?_
    exact W.iret (v := (nI 0)) hx hb hr (fun t ht hW => ⟨⟨(nI 0), us2, rfl, ⟨by rw [hlo]; exact hth, hf1, hf2, hf3, fun q9 => absurd q9 (by rw [hlo]; decide)⟩, by rw [ht]; exact hP, va_K.moved hW.alike hK, hD⟩, hS.F ht⟩) hS.2.2 dX3_extreme_8
  · have hr1 : r1 = nI 1 := by rw [hr1, hlo]; rfl
    subst hr1
    rw [hlo] at hth
    have hsv := hsv hlo
    refine wn_if_ne (tgt := 9) hx hb dX3_extreme_4 (by decide) (by omega) (fun _ => ?_) (fun c5 => (by first | exact absurd (by decide) c5 | exact absurd c5 (by decide)))
    refine lv_iconst (v := nI 0) hx hb dX3_extreme_9 (by decide) ?_
    refine lv_istore_n (lv' := [(2, .int (nI 0)), (0, .ref (ad 0)), (1, .int (bI hi))]) hx hb dX3_extreme_10 rfl hl (by decide) rfl (fun ls hl => ?_)
    refine lv_iconst (v := nI 1) hx hb dX3_extreme_11 (by decide) ?_
    refine lv_istore_n (lv' := [(3, .int (nI 1)), (2, .int (nI 0)), (0, .ref (ad 0)), (1, .int (bI hi))]) hx hb dX3_extreme_12 rfl hl (by decide) rfl (fun ls hl => ?_)
    refine wLoopR (σ := Nat × Nat) (fun k x ls => k = 8 - x.1 ∧ (x.1 ≤ 8) ∧ (x.2 = exF (us2.2.2.1 9) hi x.1) ∧ (x.2 ≤ x.1) ∧ lv_has ls 4 [(3, .int (nI (x.1 + 1))), (2, .int (nI x.2)), (1, .int (bI hi)), (0, .ref (ad 0))]) ?_ _ (0, 0) _ ⟨rfl, (by omega), rfl, (by omega), lv_sub hl [0, 1, 3, 2] rfl⟩
    intro ke x ls hI ihe
    obtain ⟨q0, b0⟩ := x
    obtain ⟨hke, hq0, hb0, hb1, hl⟩ := hI
    have hke : ke = 8 - q0 := hke
    have hq0 : q0 ≤ 8 := hq0
    have hb0 : b0 = exF (us2.2.2.1 9) hi q0 := hb0
    have hb1 : b0 ≤ q0 := hb1
    have hl : lv_has ls 4 [(3, .int (nI (q0 + 1))), (2, .int (nI b0)), (1, .int (bI hi)), (0, .ref (ad 0))] := hl
    refine lv_iload_n hx hb dX3_extreme_13 rfl (lv_at hl 0 rfl) ?_
    refine lv_bipush (v := nI 9) hx hb dX3_extreme_14 (by decide) ?_
    refine wn_icmp_ge (tgt := 75) hx hb dX3_extreme_16 (by decide) (by omega) (by omega) (fun c6 => ?_) (fun c6 => ?_)
    · refine lv_iload_n hx hb dX3_extreme_75 rfl (lv_at hl 1 rfl) ?_
      exact W.iret (v := (nI b0)) hx hb hr (fun t ht hW => ⟨⟨(nI b0), us2, rfl, ⟨by rw [hlo]; exact hth, hf1, hf2, hf3, fun _ => (by rw [hb0, show q0 = 8 by omega, exF_congr (fun k9 hk9 => sv_9 hsv (by omega))])⟩, by rw [ht]; exact hP, va_K.moved hW.alike hK, hD⟩, hS.F ht⟩) hS.2.2 dX3_extreme_76
    · refine lv_iload_n hx hb dX3_extreme_19 rfl (lv_at hl 2 rfl) ?_
      refine wb_if_eq (tgt := 47) hx hb dX3_extreme_20 (by decide) (fun cH => ?_) (fun cH => ?_)
      · refine lv_aload_n hx hb dX3_extreme_47 rfl (lv_at hl 3 rfl) ?_
        refine va_get (D := dd) (ci := 5) (v := .ref (ad 9)) (C := RX3) (T := TX3) (N := 15) hx hb hts (fun _ h9 => List.mem_cons_of_mem _ (List.mem_append_left _ (List.mem_append_right _ h9))) hown hK hP 0 (wM_0 cy ad us2 X) rfl 11 (by decide) (hts (Cond.fieldLink RX3 36 "HeadGridModel" "heads" "[J") (List.mem_of_getElem? (i := 1) rfl)) (fun _ h9 => h9) rfl dX3_extreme_48 ?_
        refine lv_iload_n hx hb dX3_extreme_51 rfl (lv_at hl 0 rfl) ?_
        refine wa_lald hx hb hK hP (wM_9 cy ad us2 X) (t0 := 1) rfl (i := q0 + 1) (by omega) (by decide) dX3_extreme_52 ?_
        refine lv_aload_n hx hb dX3_extreme_53 rfl (lv_at hl 3 rfl) ?_
        refine va_get (D := dd) (ci := 5) (v := .ref (ad 9)) (C := RX3) (T := TX3) (N := 15) hx hb hts (fun _ h9 => List.mem_cons_of_mem _ (List.mem_append_left _ (List.mem_append_right _ h9))) hown hK hP 0 (wM_0 cy ad us2 X) rfl 11 (by decide) (hts (Cond.fieldLink RX3 36 "HeadGridModel" "heads" "[J") (List.mem_of_getElem? (i := 1) rfl)) (fun _ h9 => h9) rfl dX3_extreme_54 ?_
        refine lv_iload_n hx hb dX3_extreme_57 rfl (lv_at hl 1 rfl) ?_
        refine wa_lald hx hb hK hP (wM_9 cy ad us2 X) (t0 := 1) rfl (i := b0) (by omega) (by decide) dX3_extreme_58 ?_
        refine wl_ge (tgt := 67) hx hb dX3_extreme_59 dX3_extreme_60 (by decide) (fun cB => ?_) (fun cB => ?_)
        · refine lv_iload_n hx hb dX3_extreme_67 rfl (lv_at hl 1 rfl) ?_
          refine lv_istore_n (lv' := [(2, .int (nI b0)), (3, .int (nI (q0 + 1))), (1, .int (bI hi)), (0, .ref (ad 0))]) hx hb dX3_extreme_68 rfl hl (by decide) rfl (fun ls hl => ?_)
          refine lv_iinc (v := (nI (q0 + 1 + 1))) (lv' := [(3, .int (nI (q0 + 1 + 1))), (2, .int (nI b0)), (1, .int (bI hi)), (0, .ref (ad 0))]) hx hb dX3_extreme_69 hl (k := 1) rfl (nI_1 _) (by decide) rfl (fun ls hl => ?_)
          refine lv_goto (tgt := 13) hx hb dX3_extreme_72 (by decide) ?_
          exact ihe (8 - (q0 + 1)) (q0 + 1, b0) ls (by omega) ⟨rfl, (by omega), (by rw [exF_f cH, ← hb0, if_neg (by rw [Int64.not_lt]; exact cB)]), (by omega), lv_sub hl [0, 1, 2, 3] rfl⟩
        · refine lv_iload_n hx hb dX3_extreme_63 rfl (lv_at hl 0 rfl) ?_
          refine lv_goto (tgt := 68) hx hb dX3_extreme_64 (by decide) ?_
          refine lv_istore_n (lv' := [(2, .int (nI (q0 + 1))), (3, .int (nI (q0 + 1))), (1, .int (bI hi)), (0, .ref (ad 0))]) hx hb dX3_extreme_68 rfl hl (by decide) rfl (fun ls hl => ?_)
          refine lv_iinc (v := (nI (q0 + 1 + 1))) (lv' := [(3, .int (nI (q0 + 1 + 1))), (2, .int (nI (q0 + 1))), (1, .int (bI hi)), (0, .ref (ad 0))]) hx hb dX3_extreme_69 hl (k := 1) rfl (nI_1 _) (by decide) rfl (fun ls hl => ?_)
          refine lv_goto (tgt := 13) hx hb dX3_extreme_72 (by decide) ?_
          exact ihe (8 - (q0 + 1)) (q0 + 1, q0 + 1) ls (by omega) ⟨rfl, (by omega), (by rw [exF_f cH, ← hb0, if_pos (by rw [← Int64.not_le]; exact cB)]), (by omega), lv_sub hl [0, 1, 2, 3] rfl⟩
      · refine lv_aload_n hx hb dX3_extreme_23 rfl (lv_at hl 3 rfl) ?_
        refine va_get (D := dd) (ci := 5) (v := .ref (ad 9)) (C := RX3) (T := TX3) (N := 15) hx hb hts (fun _ h9 => List.mem_cons_of_mem _ (List.mem_append_left _ (List.mem_append_right _ h9))) hown hK hP 0 (wM_0 cy ad us2 X) rfl 11 (by decide) (hts (Cond.fieldLink RX3 36 "HeadGridModel" "heads" "[J") (List.mem_of_getElem? (i := 1) rfl)) (fun _ h9 => h9) rfl dX3_extreme_24 ?_
        refine lv_iload_n hx hb dX3_extreme_27 rfl (lv_at hl 0 rfl) ?_
        refine wa_lald hx hb hK hP (wM_9 cy ad us2 X) (t0 := 1) rfl (i := q0 + 1) (by omega) (by decide) dX3_extreme_28 ?_
        refine lv_aload_n hx hb dX3_extreme_29 rfl (lv_at hl 3 rfl) ?_
        refine va_get (D := dd) (ci := 5) (v := .ref (ad 9)) (C := RX3) (T := TX3) (N := 15) hx hb hts (fun _ h9 => List.mem_cons_of_mem _ (List.mem_append_left _ (List.mem_append_right _ h9))) hown hK hP 0 (wM_0 cy ad us2 X) rfl 11 (by decide) (hts (Cond.fieldLink RX3 36 "HeadGridModel" "heads" "[J") (List.mem_of_getElem? (i := 1) rfl)) (fun _ h9 => h9) rfl dX3_extreme_30 ?_
        refine lv_iload_n hx hb dX3_extreme_33 rfl (lv_at hl 1 rfl) ?_
        refine wa_lald hx hb hK hP (wM_9 cy ad us2 X) (t0 := 1) rfl (i := b0) (by omega) (by decide) dX3_extreme_34 ?_
        refine wl_le (tgt := 43) hx hb dX3_extreme_35 dX3_extreme_36 (by decide) (fun cA => ?_) (fun cA => ?_)
        · refine lv_iload_n hx hb dX3_extreme_43 rfl (lv_at hl 1 rfl) ?_
          refine lv_goto (tgt := 68) hx hb dX3_extreme_44 (by decide) ?_
          refine lv_istore_n (lv' := [(2, .int (nI b0)), (3, .int (nI (q0 + 1))), (1, .int (bI hi)), (0, .ref (ad 0))]) hx hb dX3_extreme_68 rfl hl (by decide) rfl (fun ls hl => ?_)
          refine lv_iinc (v := (nI (q0 + 1 + 1))) (lv' := [(3, .int (nI (q0 + 1 + 1))), (2, .int (nI b0)), (1, .int (bI hi)), (0, .ref (ad 0))]) hx hb dX3_extreme_69 hl (k := 1) rfl (nI_1 _) (by decide) rfl (fun ls hl => ?_)
          refine lv_goto (tgt := 13) hx hb dX3_extreme_72 (by decide) ?_
          exact ihe (8 - (q0 + 1)) (q0 + 1, b0) ls (by omega) ⟨rfl, (by omega), (by rw [exF_t cH, ← hb0, if_neg (by rw [Int64.not_lt]; exact cA)]), (by omega), lv_sub hl [0, 1, 2, 3] rfl⟩
        · refine lv_iload_n hx hb dX3_extreme_39 rfl (lv_at hl 0 rfl) ?_
          refine lv_goto (tgt := 68) hx hb dX3_extreme_40 (by decide) ?_
          refine lv_istore_n (lv' := [(2, .int (nI (q0 + 1))), (3, .int (nI (q0 + 1))), (1, .int (bI hi)), (0, .ref (ad 0))]) hx hb dX3_extreme_68 rfl hl (by decide) rfl (fun ls hl => ?_)
          refine lv_iinc (v := (nI (q0 + 1 + 1))) (lv' := [(3, .int (nI (q0 + 1 + 1))), (2, .int (nI (q0 + 1))), (1, .int (bI hi)), (0, .ref (ad 0))]) hx hb dX3_extreme_69 hl (k := 1) rfl (nI_1 _) (by decide) rfl (fun ls hl => ?_)
          refine lv_goto (tgt := 13) hx hb dX3_extreme_72 (by decide) ?_
          exact ihe (8 - (q0 + 1)) (q0 + 1, q0 + 1) ls (by omega) ⟨rfl, (by omega), (by rw [exF_t cH, ← hb0, if_pos (by rw [← Int64.not_le]; exact cA)]), (by omega), lv_sub hl [0, 1, 2, 3] rfl⟩
theorem hd_X3_dry : yX3_dry.cls = RX3 ∧ yX3_dry.cls ≠ "java/lang/invoke/MethodHandle" ∧ yX3_dry.cls ≠ "java/lang/invoke/VarHandle" ∧ (parseMethodDescriptor yX3_dry.desc).map (fun d => d.parameters.length) = some 0 := by decide +kernel
set_option maxHeartbeats 4000000 in
set_option maxRecDepth 100000 in
/-- dry() -/
theorem c_X3_dry (l : Launch) (dd : va_G) (cy : Nat → ClassId) (ad : Nat → Nat) (X : va_W) (u : MS) (sz : Nat) (hg : GM (u.1 1)) : Met l yX3_dry wsX3_dry ({ frames := 5, cells := 0, slots := 0, locals := 114 }) (va_Pc [.ref (ad 0)] (wrW dd cy (wM cy ad u ++ X) sz)) (va_Qi (fun r u9 => u9.2.2.2.2.1 = nI (if lsM u then 1 else 0) ∧ u9.1 = u.1 ∧ u9.2.1 = u.2.1 ∧ u9.2.2.2.1 = u.2.2.2.1 ∧ (lsM u = false → r = bwF ((cn (u.1 1)).2.2.1 9) (fun k9 => u.1 1 (54 + k9)) (cn (u.1 1)).2.2.2.2.2.1 9)) (wB dd cy (fun u9 : MS => wM cy ad u9 ++ X) (va_A (wM cy ad u ++ X) sz)) (va_A (wM cy ad u ++ X) sz)) 0 0 (va_A (wM cy ad u ++ X) sz) := by
  refine Met.ofW (cc := cX3_dry) (maxL := 3) (ret := (some .int)) (by decide) rfl ?_
  intro p e s m args below meth c s₁ B hml hv
  obtain ⟨rfl, hsz, hP, hK, hD0⟩ := hv
  have hx := B.exec
  have hb := B.bytes
  have hr := B.returns
  have hts := atoms_spec (ws := wsX3_dry) B.pre
  have hown : s.vm.findClass RX3 = some m.cls := findClass_of_methodNamed B.named
  have hlocks := B.notSynchronized
  subst hsz
  have hD := hD0.self (sz := s.heap.size)
  generalize hAe : va_A (wM cy ad u ++ X) s.heap.size = A at hD ⊢
  have hA : ∀ q : Nat, s.heap.size ≤ q → A q := fun q h => by rw [← hAe]; exact Or.inr h
  have hS : va_S A s.heap s.heap [] := va_S.rf
  have hl := lv_entry ([.ref (ad 0)]) (n := 3) (Nat.le_of_ble_eq_true rfl)
  rw [lg_entry_eq]
  generalize (lg_sl ([.ref (ad 0)]) ++ List.replicate (3 - (lg_sl ([.ref (ad 0)])).length) Slot.unset).toArray = ls at hl ⊢
  have hl : lv_has ls 3 [(0, .ref (ad 0))] := hl
  refine lv_aload_n hx hb dX3_dry_0 rfl (lv_at hl 0 rfl) ?_
  refine wc_calli (va_runV (As := []) (rest := []) ⟨hx, hb, hml, hown, hts⟩ (c_X3_isSolved l dd cy ad X u _ hg) (cwV 0 hts gX3_dry_X3_isSolved rfl rfl rfl hd_X3_isSolved ⟨Nat.le_of_ble_eq_true rfl, Nat.le_of_ble_eq_true rfl⟩) (wrW_V hP hK hD (wM_0 cy ad u X) rfl) rfl rfl hl.1 rfl (lv_room (Nat.le_of_ble_eq_true rfl)) dX3_dry_1 ⟨Nat.le_of_ble_eq_true rfl, Nat.le_of_ble_eq_true rfl⟩) hD hS hA (fun r1 us2 H locs w3 hP hD hS => ?_)
  obtain ⟨hr1, hth, hf1, hf2, hf3, hsv⟩ := w3
  rcases Bool.eq_false_or_eq_true (lsM u) with hlo | hlo
  · have hr1 : r1 = nI 0 := by rw [hr1, hlo]; rfl
    subst hr1
    rw [hlo] at hth
    refine wn_if_ne (tgt := 9) hx hb dX3_dry_4 (by decide) (by omega) (fun c4 => (by first | exact absurd c4 (by decide) | exact absurd (by decide) c4)) (fun _ => ?_)
    refine lv_iconst (v := nI 0) hx hb dX3_dry_7 (by decide) ?_
    exact W.iret (v := (nI 0)) hx hb hr (fun t ht hW => ⟨⟨(nI 0), us2, rfl, ⟨by rw [hlo]; exact hth, hf1, hf2, hf3, fun q9 => absurd q9 (by rw [hlo]; decide)⟩, by rw [ht]; exact hP, va_K.moved hW.alike hK, hD⟩, hS.F ht⟩) hS.2.2 dX3_dry_8
  · have hr1 : r1 = nI 1 := by rw [hr1, hlo]; rfl
    subst hr1
    rw [hlo] at hth
    have hsv := hsv hlo
    refine wn_if_ne (tgt := 9) hx hb dX3_dry_4 (by decide) (by omega) (fun _ => ?_) (fun c5 => (by first | exact absurd (by decide) c5 | exact absurd c5 (by decide)))
    refine lv_iconst (v := nI 0) hx hb dX3_dry_9 (by decide) ?_
    refine lv_istore_n (lv' := [(1, .int (nI 0)), (0, .ref (ad 0))]) hx hb dX3_dry_10 rfl hl (by decide) rfl (fun ls hl => ?_)
    refine lv_iconst (v := nI 0) hx hb dX3_dry_11 (by decide) ?_
    refine lv_istore_n (lv' := [(2, .int (nI 0)), (1, .int (nI 0)), (0, .ref (ad 0))]) hx hb dX3_dry_12 rfl hl (by decide) rfl (fun ls hl => ?_)
    refine wLoopR (σ := Nat × Int32) (fun k x ls => k = 9 - x.1 ∧ (x.1 ≤ 9) ∧ (x.2 = bwF (us2.2.2.1 9) (fun k9 => us2.1 1 (54 + k9)) us2.2.2.2.2.2.1 x.1) ∧ lv_has ls 3 [(2, .int (nI x.1)), (1, .int x.2), (0, .ref (ad 0))]) ?_ _ (0, nI 0) _ ⟨rfl, (by omega), rfl, lv_sub hl [0, 1, 2] rfl⟩
    intro kd x ls hI ihd
    obtain ⟨j, z⟩ := x
    obtain ⟨hkd, hj, hz, hl⟩ := hI
    have hkd : kd = 9 - j := hkd
    have hj : j ≤ 9 := hj
    have hz : z = bwF (us2.2.2.1 9) (fun k9 => us2.1 1 (54 + k9)) us2.2.2.2.2.2.1 j := hz
    have hl : lv_has ls 3 [(2, .int (nI j)), (1, .int z), (0, .ref (ad 0))] := hl
    refine lv_iload_n hx hb dX3_dry_13 rfl (lv_at hl 0 rfl) ?_
    refine lv_bipush (v := nI 9) hx hb dX3_dry_14 (by decide) ?_
    refine wn_icmp_ge (tgt := 60) hx hb dX3_dry_16 (by decide) (by omega) (by omega) (fun c6 => ?_) (fun c6 => ?_)
    · refine lv_iload_n hx hb dX3_dry_60 rfl (lv_at hl 1 rfl) ?_
      exact W.iret (v := z) hx hb hr (fun t ht hW => ⟨⟨z, us2, rfl, ⟨by rw [hlo]; exact hth, hf1, hf2, hf3, fun _ => (by rw [hz, show j = 9 by omega, bwF_congr (fun k9 hk9 => sv_9 hsv hk9), hf1, sv_w hsv])⟩, by rw [ht]; exact hP, va_K.moved hW.alike hK, hD⟩, hS.F ht⟩) hS.2.2 dX3_dry_61
    · refine lv_iload_n hx hb dX3_dry_19 rfl (lv_at hl 1 rfl) ?_
      refine lv_aload_n hx hb dX3_dry_20 rfl (lv_at hl 2 rfl) ?_
      refine va_get (D := dd) (ci := 5) (v := .ref (ad 9)) (C := RX3) (T := TX3) (N := 15) hx hb hts (fun _ h9 => List.mem_cons_of_mem _ (List.mem_append_left _ (List.mem_append_right _ h9))) hown hK hP 0 (wM_0 cy ad us2 X) rfl 11 (by decide) (hts (Cond.fieldLink RX3 36 "HeadGridModel" "heads" "[J") (List.mem_of_getElem? (i := 1) rfl)) (fun _ h9 => h9) rfl dX3_dry_21 ?_
      refine lv_iload_n hx hb dX3_dry_24 rfl (lv_at hl 0 rfl) ?_
      refine wa_lald hx hb hK hP (wM_9 cy ad us2 X) (t0 := 1) rfl (i := j) (by omega) (by decide) dX3_dry_25 ?_
      refine lv_aload_n hx hb dX3_dry_26 rfl (lv_at hl 2 rfl) ?_
      refine va_get (D := dd) (ci := 5) (v := .ref (ad 1)) (C := RX3) (T := TX3) (N := 15) hx hb hts (fun _ h9 => List.mem_cons_of_mem _ (List.mem_append_left _ (List.mem_append_right _ h9))) hown hK hP 0 (wM_0 cy ad us2 X) rfl 0 (by decide) (hts (Cond.fieldLink RX3 7 "HeadGridModel" "now" "[I") (List.mem_of_getElem? (i := 2) rfl)) (fun _ h9 => h9) rfl dX3_dry_27 ?_
      refine lv_bipush (v := nI 54) hx hb dX3_dry_30 (by decide) ?_
      refine lv_iload_n hx hb dX3_dry_32 rfl (lv_at hl 0 rfl) ?_
      refine wn_iadd hx hb dX3_dry_33 ?_
      refine wa_iald hx hb hK hP (wM_1 cy ad us2 X) (t0 := 0) rfl (i := 54 + j) (by omega) (by decide) dX3_dry_34 ?_
      refine lv_i2l hx hb dX3_dry_35 rfl ?_
      refine lv_aload_n hx hb dX3_dry_36 rfl (lv_at hl 2 rfl) ?_
      refine va_get (D := dd) (ci := 5) (v := .long us2.2.2.2.2.2.1) (C := RX3) (T := TX3) (N := 15) hx hb hts (fun _ h9 => List.mem_cons_of_mem _ (List.mem_append_left _ (List.mem_append_right _ h9))) hown hK hP 0 (wM_0 cy ad us2 X) rfl 10 (by decide) (hts (Cond.fieldLink RX3 87 "HeadGridModel" "whole" "J") (List.mem_of_getElem? (i := 3) rfl)) (fun _ h9 => h9) rfl dX3_dry_37 ?_
      refine lv_lmul hx hb dX3_dry_40 ?_
      refine wl_ge (tgt := 51) hx hb dX3_dry_41 dX3_dry_42 (by decide) (fun cD => ?_) (fun cD => ?_)
      · refine lv_iconst (v := nI 0) hx hb dX3_dry_51 (by decide) ?_
        refine lv_ior hx hb dX3_dry_52 ?_
        refine lv_topi (fun x7 ex7 => ?_)
        refine lv_istore_n (lv' := [(1, .int x7), (2, .int (nI j)), (0, .ref (ad 0))]) hx hb dX3_dry_53 rfl hl (by decide) rfl (fun ls hl => ?_)
        refine lv_iinc (v := (nI (j + 1))) (lv' := [(2, .int (nI (j + 1))), (1, .int x7), (0, .ref (ad 0))]) hx hb dX3_dry_54 hl (k := 1) rfl (nI_1 _) (by decide) rfl (fun ls hl => ?_)
        refine lv_goto (tgt := 13) hx hb dX3_dry_57 (by decide) ?_
        exact ihd (9 - (j + 1)) (j + 1, x7) ls (by omega) ⟨rfl, (by omega), (by rw [ex7, bwF, ← hz, if_neg (by rw [Int64.not_lt]; exact cD)]), lv_sub hl [0, 1, 2] rfl⟩
      · refine lv_iconst (v := nI 1) hx hb dX3_dry_45 (by decide) ?_
        refine lv_iload_n hx hb dX3_dry_46 rfl (lv_at hl 0 rfl) ?_
        refine lv_ishl hx hb dX3_dry_47 ?_
        refine lv_goto (tgt := 52) hx hb dX3_dry_48 (by decide) ?_
        refine lv_ior hx hb dX3_dry_52 ?_
        refine lv_topi (fun x8 ex8 => ?_)
        refine lv_istore_n (lv' := [(1, .int x8), (2, .int (nI j)), (0, .ref (ad 0))]) hx hb dX3_dry_53 rfl hl (by decide) rfl (fun ls hl => ?_)
        refine lv_iinc (v := (nI (j + 1))) (lv' := [(2, .int (nI (j + 1))), (1, .int x8), (0, .ref (ad 0))]) hx hb dX3_dry_54 hl (k := 1) rfl (nI_1 _) (by decide) rfl (fun ls hl => ?_)
        refine lv_goto (tgt := 13) hx hb dX3_dry_57 (by decide) ?_
        exact ihd (9 - (j + 1)) (j + 1, x8) ls (by omega) ⟨rfl, (by omega), (by rw [ex8, bwF, ← hz, if_pos (by rw [← Int64.not_le]; exact cD)]), lv_sub hl [0, 1, 2] rfl⟩

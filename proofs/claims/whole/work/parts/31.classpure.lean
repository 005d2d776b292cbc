/-! the class: helpers that know one row, or none -/
theorem set_same {ws : va_W} {q0 : Nat} {x : Nat × va_E} (h : ws[q0]? = some x) : ws.set q0 x = ws := by
  apply List.ext_getElem?
  intro i
  by_cases e : i = q0
  · subst e
    rw [List.getElem?_set_self (by exact (List.getElem?_eq_some_iff.mp h).1), h]
  · rw [List.getElem?_set_ne (fun q => e q.symm)]
theorem set_get {ws : va_W} {q0 : Nat} {x y : Nat × va_E} (h : ws[q0]? = some x) : (ws.set q0 y)[q0]? = some y := List.getElem?_set_self (List.getElem?_eq_some_iff.mp h).1
theorem set_twice (ws : va_W) (q0 : Nat) (x y : Nat × va_E) : (ws.set q0 x).set q0 y = ws.set q0 y := List.set_set ..
theorem eucl {P Q j : Nat} (h : Q < P) (hQ : 0 < Q) (hb : P * Q * 2 ^ j < 2 ^ 56) : Q * (P % Q) * 2 ^ (j + 1) < 2 ^ 56 := by
  have h1 := Nat.mod_lt P hQ
  have h2 : Q + P % Q ≤ P := by
    have h3 := Nat.div_add_mod P Q
    have h4 : 1 ≤ P / Q := (Nat.one_le_div_iff hQ).mpr (Nat.le_of_lt h)
    have h5 := Nat.mul_le_mul_left Q h4
    omega
  have h6 : Q * (2 * (P % Q)) ≤ Q * P := Nat.mul_le_mul_left Q (by omega)
  have h7 := Nat.mul_le_mul_right (2 ^ j) h6
  rw [Nat.mul_comm P Q] at hb
  rw [Nat.pow_succ]
  have h8 : Q * (P % Q) * (2 ^ j * 2) = Q * (2 * (P % Q)) * 2 ^ j := by
    rw [Nat.mul_comm (2 ^ j) 2, ← Nat.mul_assoc, Nat.mul_assoc Q, Nat.mul_comm (P % Q) 2]
  omega
theorem mabs_nat {a : Int64} (ha : a.toInt ≠ -2 ^ 63) : (if 0 < a then a else -a) = lN a.toInt.natAbs := by
  by_cases h : 0 ≤ a
  · by_cases h0 : 0 < a
    · rw [if_pos h0]; exact absL_pos h
    · rw [if_neg h0]
      have : a = 0 := Int64.le_antisymm (Int64.not_lt.mp h0) h
      subst this; decide
  · rw [if_neg (fun q => h (Int64.le_of_lt q))]; exact absL_neg h ha
theorem mabs_lN {n : Nat} (h : n < 2 ^ 63) : (if 0 < lN n then lN n else -lN n) = lN n := by
  rw [mabs_nat (by rw [pk_lT h]; omega), pk_lT h]; rfl
theorem mmax1 {n : Nat} (h : 0 < n) (hn : n < 2 ^ 63) : (if (1 : Int64) < lN n then lN n else 1) = lN n := by
  by_cases h1 : n = 1
  · subst h1; decide
  · rw [if_pos]
    exact (pk_lLT (a := 1) (b := n) (by decide) hn).mpr (by omega)
theorem fillSI {f g : Nat → Int32} {v : Int32} {j i : Nat} (hg : ∀ i, g i = if i < j then v else f i) : upd g j v i = if i < j + 1 then v else f i := by
  by_cases e : i = j
  · subst e; rw [pk_us, if_pos (by omega)]
  · rw [pk_un e, hg i]; by_cases h : i < j
    · rw [if_pos h, if_pos (by omega)]
    · rw [if_neg h, if_neg (by omega)]
theorem fillSJ {f g : Nat → Int64} {v : Int64} {j i : Nat} (hg : ∀ i, g i = if i < j then v else f i) : vp_updL g j v i = if i < j + 1 then v else f i := by
  unfold vp_updL
  by_cases e : i = j
  · subst e; rw [if_pos rfl, if_pos (by omega)]
  · rw [if_neg e, hg i]; by_cases h : i < j
    · rw [if_pos h, if_pos (by omega)]
    · rw [if_neg h, if_neg (by omega)]
theorem hd_J7_fill_53178 : yJ7_fill_53178.cls ≠ "java/lang/invoke/MethodHandle" ∧ yJ7_fill_53178.cls ≠ "java/lang/invoke/VarHandle" ∧ (parseMethodDescriptor yJ7_fill_53178.desc).map (fun d => d.parameters.length) = some 2 := by decide +kernel
set_option maxHeartbeats 4000000 in
set_option maxRecDepth 100000 in
/-- Arrays.fill(int[], int) -/
theorem c_J7_fill_53178 (l : Launch) (dd : va_G) (cy : Nat → ClassId) (ws : va_W) (q0 a n : Nat) (f : Nat → Int32) (hq : ws[q0]? = some (a, .inl (cy 0, n, .inl f))) (hn : n < 2 ^ 31) (sz : Nat) (v : Int32) : Met l yJ7_fill_53178 wsJ7_fill_53178 ({ frames := 0, cells := 0, slots := 0, locals := 0 }) (va_Pc [.ref a, .int v] (wrW dd cy ws sz)) (va_Qv (fun g9 => g9 = fun i => if i < n then v else f i) (wB dd cy (fun g9 : Nat → Int32 => (ws.set q0 (a, .inl (cy 0, n, .inl g9)))) (va_A ws sz)) (va_A ws sz)) 0 0 (va_A ws sz) := by
  refine Met.ofW (cc := cJ7_fill_53178) (maxL := 4) (ret := none) (by decide) rfl ?_
  intro p e s m args below meth c s₁ B hml hv
  obtain ⟨rfl, hsz, hP, hK, hD0⟩ := hv
  have hx := B.exec
  have hb := B.bytes
  have hr := B.returns
  have hts := atoms_spec (ws := wsJ7_fill_53178) B.pre
  have hown : s.vm.findClass RJ7 = some m.cls := findClass_of_methodNamed B.named
  have hlocks := B.notSynchronized
  subst hsz
  have hD := hD0.self (sz := s.heap.size)
  generalize hAe : va_A ws s.heap.size = A at hD ⊢
  have hS : va_S A s.heap s.heap [] := va_S.rf
  have hl := lv_entry ([.ref a, .int v]) (n := 4) (Nat.le_of_ble_eq_true rfl)
  rw [lg_entry_eq]
  generalize (lg_sl ([.ref a, .int v]) ++ List.replicate (4 - (lg_sl ([.ref a, .int v])).length) Slot.unset).toArray = ls at hl ⊢
  have hl : lv_has ls 4 [(0, .ref a), (1, .int v)] := hl
  refine lv_iconst (v := nI 0) hx hb dJ7_fill_53178_0 (by decide) ?_
  refine lv_istore_n (lv' := [(2, .int (nI 0)), (0, .ref a), (1, .int v)]) hx hb dJ7_fill_53178_1 rfl hl (by decide) rfl (fun ls hl => ?_)
  refine lv_aload_n hx hb dJ7_fill_53178_2 rfl (lv_at hl 1 rfl) ?_
  refine va_alen (v := nI n) hx hb hK hP q0 0 hq rfl rfl dJ7_fill_53178_3 ?_
  refine lv_istore_n (lv' := [(3, .int (nI n)), (2, .int (nI 0)), (0, .ref a), (1, .int v)]) hx hb dJ7_fill_53178_4 rfl hl (by decide) rfl (fun ls hl => ?_)
  rw [← set_same hq] at hP hD
  refine wLoop (σ := Nat × (Nat → Int32)) (fun k x H locs ls => k = n - x.1 ∧ x.1 ≤ n ∧ (∀ i9, x.2 i9 = if i9 < x.1 then v else f i9) ∧ va_P dd vwCl (ws.set q0 (a, .inl (cy 0, n, .inl x.2))) H ∧ va_D A (ws.set q0 (a, .inl (cy 0, n, .inl x.2))) ∧ va_S A s.heap H locs ∧ lv_has ls 4 [(3, .int (nI n)), (2, .int (nI x.1)), (0, .ref a), (1, .int v)]) ?_ _ (0, f) _ _ _ ⟨rfl, Nat.zero_le _, fun i9 => by rw [if_neg (Nat.not_lt_zero i9)], hP, hD, hS, lv_sub hl [0, 1, 2, 3] rfl⟩
  intro k x H locs ls hI ih
  obtain ⟨j0, g⟩ := x
  obtain ⟨hk, hj, hg, hP, hD, hS, hl⟩ := hI
  have hk : k = n - j0 := hk
  have hj : j0 ≤ n := hj
  have hg : ∀ i9, g i9 = if i9 < j0 then v else f i9 := hg
  have hP : va_P dd vwCl (ws.set q0 (a, .inl (cy 0, n, .inl g))) H := hP
  have hD : va_D A (ws.set q0 (a, .inl (cy 0, n, .inl g))) := hD
  have hl : lv_has ls 4 [(3, .int (nI n)), (2, .int (nI j0)), (0, .ref a), (1, .int v)] := hl
  refine lv_iload_n hx hb dJ7_fill_53178_5 rfl (lv_at hl 1 rfl) ?_
  refine lv_iload_n hx hb dJ7_fill_53178_6 rfl (lv_at hl 0 rfl) ?_
  refine wn_icmp_ge (tgt := 20) hx hb dJ7_fill_53178_7 (by decide) (by omega) (by omega) (fun c1 => ?_) (fun c1 => ?_)
  · exact W.vret hx hb hr (fun t ht hW => ⟨⟨g, rfl, (funext fun i9 => by rw [hg i9, show j0 = n by omega]), by rw [ht]; exact hP, va_K.moved hW.alike hK, hD⟩, hS.F ht⟩) hS.2.2 dJ7_fill_53178_20
  · refine lv_aload_n hx hb dJ7_fill_53178_10 rfl (lv_at hl 2 rfl) ?_
    refine lv_iload_n hx hb dJ7_fill_53178_11 rfl (lv_at hl 1 rfl) ?_
    refine lv_iload_n hx hb dJ7_fill_53178_12 rfl (lv_at hl 3 rfl) ?_
    refine wa_iast hx hb hK hP hD hS (set_get hq) (t0 := 0) rfl (i := j0) (by omega) hn dJ7_fill_53178_13 (ws' := (ws.set q0 (a, .inl (cy 0, n, .inl (upd g j0 v))))) (set_twice _ _ _ _) (fun H locs hP hD hS => ?_)
    refine lv_iinc (v := (nI (j0 + 1))) (lv' := [(2, .int (nI (j0 + 1))), (3, .int (nI n)), (0, .ref a), (1, .int v)]) hx hb dJ7_fill_53178_14 hl (k := 1) rfl (nI_1 _) (by decide) rfl (fun ls hl => ?_)
    refine lv_goto (tgt := 5) hx hb dJ7_fill_53178_17 (by decide) ?_
    exact ih (n - (j0 + 1)) (j0 + 1, (upd g j0 v)) _ _ ls (by omega) ⟨rfl, (by show j0 + 1 ≤ n; omega), fun i9 => fillSI hg, hP, hD, hS, lv_sub hl [1, 0, 2, 3] rfl⟩
theorem hd_J7_fill_d0a16 : yJ7_fill_d0a16.cls ≠ "java/lang/invoke/MethodHandle" ∧ yJ7_fill_d0a16.cls ≠ "java/lang/invoke/VarHandle" ∧ (parseMethodDescriptor yJ7_fill_d0a16.desc).map (fun d => d.parameters.length) = some 2 := by decide +kernel
set_option maxHeartbeats 4000000 in
set_option maxRecDepth 100000 in
/-- Arrays.fill(long[], long) -/
theorem c_J7_fill_d0a16 (l : Launch) (dd : va_G) (cy : Nat → ClassId) (ws : va_W) (q0 a n : Nat) (f : Nat → Int64) (hq : ws[q0]? = some (a, .inl (cy 1, n, .inr (.inl f)))) (hn : n < 2 ^ 31) (sz : Nat) (v : Int64) : Met l yJ7_fill_d0a16 wsJ7_fill_d0a16 ({ frames := 0, cells := 0, slots := 0, locals := 0 }) (va_Pc [.ref a, .long v] (wrW dd cy ws sz)) (va_Qv (fun g9 => g9 = fun i => if i < n then v else f i) (wB dd cy (fun g9 : Nat → Int64 => (ws.set q0 (a, .inl (cy 1, n, .inr (.inl g9))))) (va_A ws sz)) (va_A ws sz)) 0 0 (va_A ws sz) := by
  refine Met.ofW (cc := cJ7_fill_d0a16) (maxL := 5) (ret := none) (by decide) rfl ?_
  intro p e s m args below meth c s₁ B hml hv
  obtain ⟨rfl, hsz, hP, hK, hD0⟩ := hv
  have hx := B.exec
  have hb := B.bytes
  have hr := B.returns
  have hts := atoms_spec (ws := wsJ7_fill_d0a16) B.pre
  have hown : s.vm.findClass RJ7 = some m.cls := findClass_of_methodNamed B.named
  have hlocks := B.notSynchronized
  subst hsz
  have hD := hD0.self (sz := s.heap.size)
  generalize hAe : va_A ws s.heap.size = A at hD ⊢
  have hS : va_S A s.heap s.heap [] := va_S.rf
  have hl := lv_entry ([.ref a, .long v]) (n := 5) (Nat.le_of_ble_eq_true rfl)
  rw [lg_entry_eq]
  generalize (lg_sl ([.ref a, .long v]) ++ List.replicate (5 - (lg_sl ([.ref a, .long v])).length) Slot.unset).toArray = ls at hl ⊢
  have hl : lv_has ls 5 [(0, .ref a), (1, .long v)] := hl
  refine lv_iconst (v := nI 0) hx hb dJ7_fill_d0a16_0 (by decide) ?_
  refine lv_istore_n (lv' := [(3, .int (nI 0)), (0, .ref a), (1, .long v)]) hx hb dJ7_fill_d0a16_1 rfl hl (by decide) rfl (fun ls hl => ?_)
  refine lv_aload_n hx hb dJ7_fill_d0a16_2 rfl (lv_at hl 1 rfl) ?_
  refine va_alen (v := nI n) hx hb hK hP q0 1 hq rfl rfl dJ7_fill_d0a16_3 ?_
  refine lv_istore (lv' := [(4, .int (nI n)), (3, .int (nI 0)), (0, .ref a), (1, .long v)]) hx hb dJ7_fill_d0a16_4 hl (by decide) rfl (fun ls hl => ?_)
  rw [← set_same hq] at hP hD
  refine wLoop (σ := Nat × (Nat → Int64)) (fun k x H locs ls => k = n - x.1 ∧ x.1 ≤ n ∧ (∀ i9, x.2 i9 = if i9 < x.1 then v else f i9) ∧ va_P dd vwCl (ws.set q0 (a, .inl (cy 1, n, .inr (.inl x.2)))) H ∧ va_D A (ws.set q0 (a, .inl (cy 1, n, .inr (.inl x.2)))) ∧ va_S A s.heap H locs ∧ lv_has ls 5 [(4, .int (nI n)), (3, .int (nI x.1)), (0, .ref a), (1, .long v)]) ?_ _ (0, f) _ _ _ ⟨rfl, Nat.zero_le _, fun i9 => by rw [if_neg (Nat.not_lt_zero i9)], hP, hD, hS, lv_sub hl [0, 1, 2, 3] rfl⟩
  intro k x H locs ls hI ih
  obtain ⟨j0, g⟩ := x
  obtain ⟨hk, hj, hg, hP, hD, hS, hl⟩ := hI
  have hk : k = n - j0 := hk
  have hj : j0 ≤ n := hj
  have hg : ∀ i9, g i9 = if i9 < j0 then v else f i9 := hg
  have hP : va_P dd vwCl (ws.set q0 (a, .inl (cy 1, n, .inr (.inl g)))) H := hP
  have hD : va_D A (ws.set q0 (a, .inl (cy 1, n, .inr (.inl g)))) := hD
  have hl : lv_has ls 5 [(4, .int (nI n)), (3, .int (nI j0)), (0, .ref a), (1, .long v)] := hl
  refine lv_iload_n hx hb dJ7_fill_d0a16_6 rfl (lv_at hl 1 rfl) ?_
  refine lv_iload hx hb dJ7_fill_d0a16_7 (lv_at hl 0 rfl) ?_
  refine wn_icmp_ge (tgt := 22) hx hb dJ7_fill_d0a16_9 (by decide) (by omega) (by omega) (fun c1 => ?_) (fun c1 => ?_)
  · exact W.vret hx hb hr (fun t ht hW => ⟨⟨g, rfl, (funext fun i9 => by rw [hg i9, show j0 = n by omega]), by rw [ht]; exact hP, va_K.moved hW.alike hK, hD⟩, hS.F ht⟩) hS.2.2 dJ7_fill_d0a16_22
  · refine lv_aload_n hx hb dJ7_fill_d0a16_12 rfl (lv_at hl 2 rfl) ?_
    refine lv_iload_n hx hb dJ7_fill_d0a16_13 rfl (lv_at hl 1 rfl) ?_
    refine lv_lload_n hx hb dJ7_fill_d0a16_14 rfl (lv_at hl 3 rfl) ?_
    refine wa_last hx hb hK hP hD hS (set_get hq) (t0 := 1) rfl (i := j0) (by omega) hn dJ7_fill_d0a16_15 (ws' := (ws.set q0 (a, .inl (cy 1, n, .inr (.inl (vp_updL g j0 v)))))) (set_twice _ _ _ _) (fun H locs hP hD hS => ?_)
    refine lv_iinc (v := (nI (j0 + 1))) (lv' := [(3, .int (nI (j0 + 1))), (4, .int (nI n)), (0, .ref a), (1, .long v)]) hx hb dJ7_fill_d0a16_16 hl (k := 1) rfl (nI_1 _) (by decide) rfl (fun ls hl => ?_)
    refine lv_goto (tgt := 6) hx hb dJ7_fill_d0a16_19 (by decide) ?_
    exact ih (n - (j0 + 1)) (j0 + 1, (vp_updL g j0 v)) _ _ ls (by omega) ⟨rfl, (by show j0 + 1 ≤ n; omega), fun i9 => fillSJ hg, hP, hD, hS, lv_sub hl [1, 0, 2, 3] rfl⟩
theorem hd_X2_exchange : yX2_exchange.cls ≠ "java/lang/invoke/MethodHandle" ∧ yX2_exchange.cls ≠ "java/lang/invoke/VarHandle" ∧ (parseMethodDescriptor yX2_exchange.desc).map (fun d => d.parameters.length) = some 3 := by decide +kernel
set_option maxHeartbeats 4000000 in
set_option maxRecDepth 100000 in
/-- exchange(values, index, value) -/
theorem c_X2_exchange (l : Launch) (dd : va_G) (cy : Nat → ClassId) (ws : va_W) (q0 a n : Nat) (f : Nat → Int32) (hq : ws[q0]? = some (a, .inl (cy 0, n, .inl f))) (hn : n < 2 ^ 31) (sz : Nat) (i : Nat) (hi : i < n) (v : Int32) : Met l yX2_exchange wsX2_exchange ({ frames := 0, cells := 0, slots := 0, locals := 0 }) (va_Pc [.ref a, .int (nI i), .int v] (wrW dd cy ws sz)) (va_Qi (fun r g9 => r = f i ∧ g9 = upd f i v) (wB dd cy (fun g9 : Nat → Int32 => (ws.set q0 (a, .inl (cy 0, n, .inl g9)))) (va_A ws sz)) (va_A ws sz)) 0 0 (va_A ws sz) := by
  refine Met.ofW (cc := cX2_exchange) (maxL := 4) (ret := (some .int)) (by decide) rfl ?_
  intro p e s m args below meth c s₁ B hml hv
  obtain ⟨rfl, hsz, hP, hK, hD0⟩ := hv
  have hx := B.exec
  have hb := B.bytes
  have hr := B.returns
  have hts := atoms_spec (ws := wsX2_exchange) B.pre
  have hown : s.vm.findClass RX2 = some m.cls := findClass_of_methodNamed B.named
  have hlocks := B.notSynchronized
  subst hsz
  have hD := hD0.self (sz := s.heap.size)
  generalize hAe : va_A ws s.heap.size = A at hD ⊢
  have hS : va_S A s.heap s.heap [] := va_S.rf
  have hl := lv_entry ([.ref a, .int (nI i), .int v]) (n := 4) (Nat.le_of_ble_eq_true rfl)
  rw [lg_entry_eq]
  generalize (lg_sl ([.ref a, .int (nI i), .int v]) ++ List.replicate (4 - (lg_sl ([.ref a, .int (nI i), .int v])).length) Slot.unset).toArray = ls at hl ⊢
  have hl : lv_has ls 4 [(0, .ref a), (1, .int (nI i)), (2, .int v)] := hl
  refine lv_aload_n hx hb dX2_exchange_0 rfl (lv_at hl 0 rfl) ?_
  refine lv_iload_n hx hb dX2_exchange_1 rfl (lv_at hl 1 rfl) ?_
  refine wa_iald hx hb hK hP hq (t0 := 0) rfl (i := i) (by omega) hn dX2_exchange_2 ?_
  refine lv_topi (fun x1 ex1 => ?_)
  refine lv_istore_n (lv' := [(3, .int x1), (0, .ref a), (1, .int (nI i)), (2, .int v)]) hx hb dX2_exchange_3 rfl hl (by decide) rfl (fun ls hl => ?_)
  refine lv_aload_n hx hb dX2_exchange_4 rfl (lv_at hl 1 rfl) ?_
  refine lv_iload_n hx hb dX2_exchange_5 rfl (lv_at hl 2 rfl) ?_
  refine lv_iload_n hx hb dX2_exchange_6 rfl (lv_at hl 3 rfl) ?_
  refine wa_iast hx hb hK hP hD hS hq (t0 := 0) rfl (i := i) (by omega) hn dX2_exchange_7 (ws' := (ws.set q0 (a, .inl (cy 0, n, .inl (upd f i v))))) rfl (fun H locs hP hD hS => ?_)
  refine lv_iload_n hx hb dX2_exchange_8 rfl (lv_at hl 0 rfl) ?_
  exact W.iret (v := x1) hx hb hr (fun t ht hW => ⟨⟨x1, (upd f i v), rfl, ⟨ex1, rfl⟩, by rw [ht]; exact hP, va_K.moved hW.alike hK, hD⟩, hS.F ht⟩) hS.2.2 dX2_exchange_9
theorem hd_X2_mixAll : yX2_mixAll.cls ≠ "java/lang/invoke/MethodHandle" ∧ yX2_mixAll.cls ≠ "java/lang/invoke/VarHandle" ∧ (parseMethodDescriptor yX2_mixAll.desc).map (fun d => d.parameters.length) = some 2 := by decide +kernel
set_option maxHeartbeats 4000000 in
set_option maxRecDepth 100000 in
/-- mixAll(hash, values) -/
theorem c_X2_mixAll (l : Launch) (dd : va_G) (cy : Nat → ClassId) (ws : va_W) (q0 a n : Nat) (f : Nat → Int32) (hq : ws[q0]? = some (a, .inl (cy 0, n, .inl f))) (hn : n < 2 ^ 31) (h0 : Int64) : Met l yX2_mixAll wsX2_mixAll ({ frames := 1, cells := 0, slots := 0, locals := 23 }) (va_Pc [.long h0, .ref a] (rdW dd cy ws)) (vp_Sl (fun r => r = hmI (fun k => (f k).toInt64) n h0)) 0 0 (fun _ => False) := by
  refine Met.ofW (cc := cX2_mixAll) (maxL := 9) (ret := (some .long)) (by decide) rfl ?_
  intro p e s m args below meth c s₁ B hml hv
  obtain ⟨rfl, hP, hK⟩ := hv
  have hx := B.exec
  have hb := B.bytes
  have hr := B.returns
  have hts := atoms_spec (ws := wsX2_mixAll) B.pre
  have hown : s.vm.findClass RX2 = some m.cls := findClass_of_methodNamed B.named
  have hlocks := B.notSynchronized
  have hl := lv_entry ([.long h0, .ref a]) (n := 9) (Nat.le_of_ble_eq_true rfl)
  rw [lg_entry_eq]
  generalize (lg_sl ([.long h0, .ref a]) ++ List.replicate (9 - (lg_sl ([.long h0, .ref a])).length) Slot.unset).toArray = ls at hl ⊢
  have hl : lv_has ls 9 [(0, .long h0), (2, .ref a)] := hl
  refine lv_lload_n hx hb dX2_mixAll_0 rfl (lv_at hl 0 rfl) ?_
  refine lv_lstore_n (lv' := [(3, .long h0), (0, .long h0), (2, .ref a)]) hx hb dX2_mixAll_1 rfl hl (by decide) rfl (fun ls hl => ?_)
  refine lv_aload_n hx hb dX2_mixAll_2 rfl (lv_at hl 2 rfl) ?_
  refine lv_astore (lv' := [(5, .ref a), (3, .long h0), (0, .long h0), (2, .ref a)]) hx hb dX2_mixAll_3 hl (by decide) rfl (fun ls hl => ?_)
  refine lv_aload hx hb dX2_mixAll_5 (lv_at hl 0 rfl) ?_
  refine va_alen (v := nI n) hx hb hK hP q0 0 hq rfl rfl dX2_mixAll_7 ?_
  refine lv_istore (lv' := [(6, .int (nI n)), (5, .ref a), (3, .long h0), (0, .long h0), (2, .ref a)]) hx hb dX2_mixAll_8 hl (by decide) rfl (fun ls hl => ?_)
  refine lv_iconst (v := nI 0) hx hb dX2_mixAll_10 (by decide) ?_
  refine lv_istore (lv' := [(7, .int (nI 0)), (6, .int (nI n)), (5, .ref a), (3, .long h0), (0, .long h0), (2, .ref a)]) hx hb dX2_mixAll_11 hl (by decide) rfl (fun ls hl => ?_)
  refine wLoopR (σ := Nat × Int64) (fun k x ls => k = n - x.1 ∧ (x.1 ≤ n) ∧ (x.2 = hmI (fun k => (f k).toInt64) x.1 h0) ∧ lv_has ls 9 [(7, .int (nI x.1)), (6, .int (nI n)), (5, .ref a), (3, .long x.2)]) ?_ _ (0, h0) _ ⟨rfl, (Nat.zero_le _), rfl, lv_sub hl [0, 1, 2, 3] rfl⟩
  intro k x ls hI ih
  obtain ⟨j0, z⟩ := x
  obtain ⟨hk, hj, hz, hl⟩ := hI
  have hk : k = n - j0 := hk
  have hj : j0 ≤ n := hj
  have hz : z = hmI (fun k => (f k).toInt64) j0 h0 := hz
  have hl : lv_has ls 9 [(7, .int (nI j0)), (6, .int (nI n)), (5, .ref a), (3, .long z)] := hl
  refine lv_iload hx hb dX2_mixAll_13 (lv_at hl 0 rfl) ?_
  refine lv_iload hx hb dX2_mixAll_15 (lv_at hl 1 rfl) ?_
  refine wn_icmp_ge (tgt := 41) hx hb dX2_mixAll_17 (by decide) (by omega) (by omega) (fun c1 => ?_) (fun c1 => ?_)
  · refine lv_lload_n hx hb dX2_mixAll_41 rfl (lv_at hl 3 rfl) ?_
    exact W.lret (v := z) hx hb hr (fun t ht hW => ⟨z, rfl, (by rw [hz, show j0 = n by omega]), ht⟩) (fun q hq => absurd hq List.not_mem_nil) dX2_mixAll_42
  · refine lv_aload hx hb dX2_mixAll_20 (lv_at hl 2 rfl) ?_
    refine lv_iload hx hb dX2_mixAll_22 (lv_at hl 0 rfl) ?_
    refine wa_iald hx hb hK hP hq (t0 := 0) rfl (i := j0) (by omega) hn dX2_mixAll_24 ?_
    refine lv_topi (fun x2 ex2 => ?_)
    refine lv_istore (lv' := [(8, .int x2), (7, .int (nI j0)), (6, .int (nI n)), (5, .ref a), (3, .long z)]) hx hb dX2_mixAll_25 hl (by decide) rfl (fun ls hl => ?_)
    refine lv_lload_n hx hb dX2_mixAll_27 rfl (lv_at hl 4 rfl) ?_
    refine lv_iload hx hb dX2_mixAll_28 (lv_at hl 0 rfl) ?_
    refine lv_i2l hx hb dX2_mixAll_30 rfl ?_
    refine vp_callSl (va_runS (As := [.long z, .long x2.toInt64]) (rest := []) ⟨hx, hb, hml, hown, hts⟩ (c_X2_mix l z x2.toInt64) (va_cwS 2 hts gX2_mixAll_X2_mix rfl rfl rfl hd_X2_mix ⟨Nat.le_of_ble_eq_true rfl, Nat.le_of_ble_eq_true rfl⟩) ⟨fun a U g mk q => q, fun U hU hW => ⟨rfl, trivial⟩⟩ rfl rfl hl.1 rfl (lv_room (Nat.le_of_ble_eq_true rfl)) dX2_mixAll_31 ⟨Nat.le_of_ble_eq_true rfl, Nat.le_of_ble_eq_true rfl⟩).run (fun r3 hr3 => ?_)
    have hr3 : r3 = (31 * z + x2.toInt64) := hr3
    subst hr3
    refine lv_topl (fun x4 ex4 => ?_)
    refine lv_lstore_n (lv' := [(3, .long x4), (8, .int x2), (7, .int (nI j0)), (6, .int (nI n)), (5, .ref a)]) hx hb dX2_mixAll_34 rfl hl (by decide) rfl (fun ls hl => ?_)
    refine lv_iinc (v := (nI (j0 + 1))) (lv' := [(7, .int (nI (j0 + 1))), (3, .long x4), (8, .int x2), (6, .int (nI n)), (5, .ref a)]) hx hb dX2_mixAll_35 hl (k := 2) rfl (nI_1 _) (by decide) rfl (fun ls hl => ?_)
    refine lv_goto (tgt := 13) hx hb dX2_mixAll_38 (by decide) ?_
    exact ih (n - (j0 + 1)) (j0 + 1, x4) ls (by omega) ⟨rfl, (by show j0 + 1 ≤ n; omega), (by rw [ex4, ex2, hz]; rfl), lv_sub hl [0, 3, 4, 1] rfl⟩
theorem hd_X2_distance : yX2_distance.cls ≠ "java/lang/invoke/MethodHandle" ∧ yX2_distance.cls ≠ "java/lang/invoke/VarHandle" ∧ (parseMethodDescriptor yX2_distance.desc).map (fun d => d.parameters.length) = some 2 := by decide +kernel
set_option maxHeartbeats 4000000 in
set_option maxRecDepth 100000 in
/-- distance(x, y) -/
theorem c_X2_distance (l : Launch) (x y : UInt64) (hfx : FP.Core.DFin x) (hfy : FP.Core.DFin y) (hfd : FP.Core.DFin (FP.dsub x y)) : Met l yX2_distance wsX2_distance ({ frames := 0, cells := 0, slots := 0, locals := 0 }) (va_Pc [.double x, .double y] (fun _ => True)) (vp_Sd (fun r => r = dfD x y)) 0 0 (fun _ => False) := by
  refine Met.ofW (cc := cX2_distance) (maxL := 6) (ret := (some .double)) (by decide) rfl ?_
  intro p e s m args below meth c s₁ B hml hv
  obtain ⟨rfl, -⟩ := hv
  have hx := B.exec
  have hb := B.bytes
  have hr := B.returns
  have hts := atoms_spec (ws := wsX2_distance) B.pre
  have hown : s.vm.findClass RX2 = some m.cls := findClass_of_methodNamed B.named
  have hlocks := B.notSynchronized
  have hl := lv_entry ([.double x, .double y]) (n := 6) (Nat.le_of_ble_eq_true rfl)
  rw [lg_entry_eq]
  generalize (lg_sl ([.double x, .double y]) ++ List.replicate (6 - (lg_sl ([.double x, .double y])).length) Slot.unset).toArray = ls at hl ⊢
  have hl : lv_has ls 6 [(0, .double x), (2, .double y)] := hl
  refine lv_dload_n hx hb dX2_distance_0 rfl (lv_at hl 0 rfl) ?_
  refine lv_dload_n hx hb dX2_distance_1 rfl (lv_at hl 1 rfl) ?_
  refine lv_dsub hx hb dX2_distance_2 (n64_fin hfd) ?_
  refine lv_topd (fun x1 ex1 => ?_)
  refine lv_dstore (lv' := [(4, .double x1), (0, .double x), (2, .double y)]) hx hb dX2_distance_3 hl (by decide) rfl (fun ls hl => ?_)
  refine lv_dload hx hb dX2_distance_5 (lv_at hl 0 rfl) ?_
  refine lv_dconst0 hx hb dX2_distance_7 ?_
  refine wd_gge (tgt := 18) hx hb dX2_distance_8 dX2_distance_9 (by decide) (fun c1 => ?_) (fun c1 => ?_)
  · refine lv_dload hx hb dX2_distance_18 (lv_at hl 0 rfl) ?_
    exact W.dret (v := x1) hx hb hr (fun t ht hW => ⟨x1, rfl, (by rw [← dist_eq hfx hfy hfd, ← ex1, if_neg c1]), ht⟩) (fun q hq => absurd hq List.not_mem_nil) dX2_distance_20
  · refine lv_dload hx hb dX2_distance_12 (lv_at hl 0 rfl) ?_
    refine lv_dneg hx hb dX2_distance_14 ?_
    refine lv_goto (tgt := 20) hx hb dX2_distance_15 (by decide) ?_
    exact W.dret (v := (FP.dneg x1)) hx hb hr (fun t ht hW => ⟨(FP.dneg x1), rfl, (by rw [← dist_eq hfx hfy hfd, ← ex1, if_pos c1]), ht⟩) (fun q hq => absurd hq List.not_mem_nil) dX2_distance_20
theorem exp_l {e : Int32} {k : Nat} (he : e.toInt = (k : Int) - 1022) (hk : k ≤ 2045) : (e + nI 1023).toInt64 = lN (k + 1) := by
  apply Int64.toInt_inj.mp
  rw [Int32.toInt_toInt64, Int32.toInt_add, he, show (nI 1023).toInt = 1023 by decide, pk_lT (by omega), Int.bmod_eq_of_le (by omega) (by omega)]
  omega
theorem lN_sb {a b : Nat} (h : b ≤ a) : lN a - lN b = lN (a - b) := by
  obtain ⟨d, rfl⟩ : ∃ d, a = b + d := ⟨a - b, by omega⟩
  rw [Nat.add_sub_cancel_left]
  show Int64.ofNat (b + d) - Int64.ofNat b = Int64.ofNat d
  rw [Int64.ofNat_add, Int64.add_comm, Int64.add_sub_cancel]
theorem hd_X2_bitsOf : yX2_bitsOf.cls ≠ "java/lang/invoke/MethodHandle" ∧ yX2_bitsOf.cls ≠ "java/lang/invoke/VarHandle" ∧ (parseMethodDescriptor yX2_bitsOf.desc).map (fun d => d.parameters.length) = some 1 := by decide +kernel
set_option maxHeartbeats 4000000 in
set_option maxRecDepth 100000 in
/-- bitsOf(value) -/
theorem c_X2_bitsOf (l : Launch) (v : UInt64) (hv : FP.Core.DFin v) : Met l yX2_bitsOf wsX2_bitsOf ({ frames := 0, cells := 0, slots := 0, locals := 0 }) (va_Pc [.double v] (fun _ => True)) (vp_Sl (fun r => r = bsD v)) 0 0 (fun _ => False) := by
  refine Met.ofW (cc := cX2_bitsOf) (maxL := 11) (ret := (some .long)) (by decide) rfl ?_
  intro p e s m args below meth c s₁ B hml hv
  obtain ⟨rfl, -⟩ := hv
  have hx := B.exec
  have hb := B.bytes
  have hr := B.returns
  have hts := atoms_spec (ws := wsX2_bitsOf) B.pre
  have hown : s.vm.findClass RX2 = some m.cls := findClass_of_methodNamed B.named
  have hlocks := B.notSynchronized
  have hl := lv_entry ([.double v]) (n := 11) (Nat.le_of_ble_eq_true rfl)
  rw [lg_entry_eq]
  generalize (lg_sl ([.double v]) ++ List.replicate (11 - (lg_sl ([.double v])).length) Slot.unset).toArray = ls at hl ⊢
  have hl : lv_has ls 11 [(0, .double v)] := hl
  obtain ⟨hc1, hk1, hck, -⟩ := dec64 hv
  refine lv_dload_n hx hb dX2_bitsOf_0 rfl (lv_at hl 0 rfl) ?_
  refine lv_dconst0 hx hb dX2_bitsOf_1 ?_
  refine wd_lne (tgt := 22) hx hb dX2_bitsOf_2 dX2_bitsOf_3 (by decide) (fun c1 => ?_) (fun c1 => ?_)
  · refine wCut (pc2 := 36) (fun ls => lv_has ls 11 [(2, .long (sgB (dS v))), (0, .double v)]) (fun K1 => ?_) (fun ls hl => ?_)
    · refine lv_dload_n hx hb dX2_bitsOf_22 rfl (lv_at hl 0 rfl) ?_
      refine lv_dconst0 hx hb dX2_bitsOf_23 ?_
      refine wd_gge (tgt := 34) hx hb dX2_bitsOf_24 dX2_bitsOf_25 (by decide) (fun c3 => ?_) (fun c3 => ?_)
      · refine lv_lconst (v := 0) hx hb dX2_bitsOf_34 rfl ?_
        refine lv_topl (fun y2 ey2 => ?_)
        have ey2 : sgB (dS v) = y2 := (ey2.trans (by rw [sg_pos (by have h8 : ¬ zV v < 0 := fun q9 => c3 ((neg_V hv).mpr q9); have h9 : ¬ zV v = 0 := fun q9 => c1 ((eq_V hv).mpr q9); omega)]; rfl)).symm
        subst ey2
        refine lv_lstore_n (lv' := [(2, .long (sgB (dS v))), (0, .double v)]) hx hb dX2_bitsOf_35 rfl hl (by decide) rfl (fun ls hl => ?_)
        exact K1 ls (lv_sub hl [0, 1] rfl)
      · refine lv_ldc2 hx hb hown (hts _ (List.mem_of_getElem? (i := 1) rfl)) dX2_bitsOf_28 ?_
        refine lv_goto (tgt := 35) hx hb dX2_bitsOf_31 (by decide) ?_
        refine lv_topl (fun y3 ey3 => ?_)
        have ey3 : sgB (dS v) = y3 := (ey3.trans (by rw [sg_neg ((neg_V hv).mp c3)]; rfl)).symm
        subst ey3
        refine lv_lstore_n (lv' := [(2, .long (sgB (dS v))), (0, .double v)]) hx hb dX2_bitsOf_35 rfl hl (by decide) rfl (fun ls hl => ?_)
        exact K1 ls (lv_sub hl [0, 1] rfl)
    · obtain ⟨a, ha⟩ : ∃ z9z, z9z = (if FP.dcmp v FP.dconst0 = some .lt then FP.dneg v else v) := ⟨_, rfl⟩
      have hpa := pR_abs hv
      rw [← ha] at hpa
      refine wCut (pc2 := 50) (fun ls => lv_has ls 11 [(4, .double a), (2, .long (sgB (dS v)))]) (fun K4 => ?_) (fun ls hl => ?_)
      · refine lv_dload_n hx hb dX2_bitsOf_36 rfl (lv_at hl 1 rfl) ?_
        refine lv_dconst0 hx hb dX2_bitsOf_37 ?_
        refine wd_gge (tgt := 47) hx hb dX2_bitsOf_38 dX2_bitsOf_39 (by decide) (fun c4 => ?_) (fun c4 => ?_)
        · refine lv_dload_n hx hb dX2_bitsOf_47 rfl (lv_at hl 1 rfl) ?_
          refine lv_topd (fun y5 ey5 => ?_)
          have ey5 : a = y5 := (ey5.trans (by rw [ha, if_neg c4])).symm
          subst ey5
          refine lv_dstore (lv' := [(4, .double a), (2, .long (sgB (dS v))), (0, .double v)]) hx hb dX2_bitsOf_48 hl (by decide) rfl (fun ls hl => ?_)
          exact K4 ls (lv_sub hl [0, 1] rfl)
        · refine lv_dload_n hx hb dX2_bitsOf_42 rfl (lv_at hl 1 rfl) ?_
          refine lv_dneg hx hb dX2_bitsOf_43 ?_
          refine lv_goto (tgt := 48) hx hb dX2_bitsOf_44 (by decide) ?_
          refine lv_topd (fun y6 ey6 => ?_)
          have ey6 : a = y6 := (ey6.trans (by rw [ha, if_pos c4])).symm
          subst ey6
          refine lv_dstore (lv' := [(4, .double a), (2, .long (sgB (dS v))), (0, .double v)]) hx hb dX2_bitsOf_48 hl (by decide) rfl (fun ls hl => ?_)
          exact K4 ls (lv_sub hl [0, 1] rfl)
      · refine lv_iconst (v := nI 0) hx hb dX2_bitsOf_50 (by decide) ?_
        refine lv_istore (lv' := [(6, .int (nI 0)), (4, .double a), (2, .long (sgB (dS v)))]) hx hb dX2_bitsOf_51 hl (by decide) rfl (fun ls hl => ?_)
        have he0 : (nI 0).toInt = 0 := by decide
        refine wLoopR (σ := Nat × Int32 × UInt64) (fun k x ls => k = x.1 ∧ (pR (dC v) x.1 x.2.2) ∧ (x.2.1.toInt = (dK v : Int) - x.1) ∧ (x.1 ≤ dK v) ∧ lv_has ls 11 [(6, .int x.2.1), (4, .double x.2.2), (2, .long (sgB (dS v)))]) ?_ _ (dK v, nI 0, a) _ ⟨rfl, hpa, (by rw [he0]; omega), (Nat.le_refl _), lv_sub hl [0, 1, 2] rfl⟩
        intro ka x ls hI iha
        obtain ⟨j0, e0, b⟩ := x
        obtain ⟨hka, hp, he, hj, hl⟩ := hI
        have hka : ka = j0 := hka
        have hp : pR (dC v) j0 b := hp
        have he : e0.toInt = (dK v : Int) - j0 := he
        have hj : j0 ≤ dK v := hj
        have hl : lv_has ls 11 [(6, .int e0), (4, .double b), (2, .long (sgB (dS v)))] := hl
        refine lv_dload hx hb dX2_bitsOf_53 (lv_at hl 1 rfl) ?_
        refine lv_ldc2d hx hb hown (hts _ (List.mem_of_getElem? (i := 2) rfl)) dX2_bitsOf_55 ?_
        refine wd_llt (tgt := 84) hx hb dX2_bitsOf_58 dX2_bitsOf_59 (by decide) (fun c6 => ?_) (fun c6 => ?_)
        · have hx9 : FP.dcmp b 4611686018427387904 = some .lt := by rcases c6 with q9 | q9; (exact q9); (exact absurd q9 (cmp_nn hp.1 fin_2))
          have hjn : j0 ≤ 1022 := by rcases Nat.lt_or_ge (dC v) (2 ^ 52) with h9 | h9; (omega); (have := (pR_ge2 hp hc1 h9).mp hx9; omega)
          refine wLoopR (σ := Nat × Int32 × UInt64) (fun k x ls => k = 1022 - x.1 ∧ (pR (dC v) x.1 x.2.2) ∧ (x.2.1.toInt = (dK v : Int) - x.1) ∧ (x.1 ≤ 1022) ∧ lv_has ls 11 [(6, .int x.2.1), (4, .double x.2.2), (2, .long (sgB (dS v)))]) ?_ _ (j0, e0, b) _ ⟨rfl, hp, he, (by omega), lv_sub hl [0, 1, 2] rfl⟩
          intro kb x ls hI ihb
          obtain ⟨j0, e0, b⟩ := x
          obtain ⟨hkb, hp, he, hj, hl⟩ := hI
          have hkb : kb = 1022 - j0 := hkb
          have hp : pR (dC v) j0 b := hp
          have he : e0.toInt = (dK v : Int) - j0 := he
          have hj : j0 ≤ 1022 := hj
          have hl : lv_has ls 11 [(6, .int e0), (4, .double b), (2, .long (sgB (dS v)))] := hl
          refine lv_dload hx hb dX2_bitsOf_84 (lv_at hl 1 rfl) ?_
          refine lv_dconst1 hx hb dX2_bitsOf_86 ?_
          refine wd_gge (tgt := 113) hx hb dX2_bitsOf_87 dX2_bitsOf_88 (by decide) (fun c8 => ?_) (fun c8 => ?_)
          · have hj9 : j0 = 1022 := by rcases Nat.lt_or_ge (dC v) (2 ^ 52) with h9 | h9; (exact absurd (pR_lt1s hp h9 hj) c8); (have h8 : ¬ j0 < 1022 := fun q9 => c8 ((pR_lt1 hp hc1 h9).mpr q9); omega)
            rw [hj9] at hp he
            refine lv_ldc2 hx hb hown (hts _ (List.mem_of_getElem? (i := 3) rfl)) dX2_bitsOf_113 ?_
            refine lv_lstore (lv' := [(7, .long 4503599627370496), (6, .int e0), (4, .double b), (2, .long (sgB (dS v)))]) hx hb dX2_bitsOf_116 hl (by decide) rfl (fun ls hl => ?_)
            have hp2 : pR (dC v) 1074 (FP.dmul b (FP.l2d 4503599627370496)) := by rw [l2d_52]; exact pR_52 hp hc1
            refine lv_dload hx hb dX2_bitsOf_118 (lv_at hl 2 rfl) ?_
            refine lv_lload hx hb dX2_bitsOf_120 (lv_at hl 0 rfl) ?_
            refine lv_l2d hx hb dX2_bitsOf_122 ?_
            refine lv_dmul hx hb dX2_bitsOf_123 (n64_fin hp2.1) ?_
            refine lv_d2l hx hb dX2_bitsOf_124 ?_
            refine lv_topl (fun y7 ey7 => ?_)
            have ey7 : lN (dC v) = y7 := (ey7.trans (pR_l hp2 hc1)).symm
            subst ey7
            refine lv_lstore (lv' := [(9, .long (lN (dC v))), (7, .long 4503599627370496), (6, .int e0), (4, .double b), (2, .long (sgB (dS v)))]) hx hb dX2_bitsOf_125 hl (by decide) rfl (fun ls hl => ?_)
            refine lv_lload hx hb dX2_bitsOf_127 (lv_at hl 0 rfl) ?_
            refine lv_lload hx hb dX2_bitsOf_129 (lv_at hl 1 rfl) ?_
            refine wl_ge (tgt := 140) hx hb dX2_bitsOf_131 dX2_bitsOf_132 (by decide) (fun cD => ?_) (fun cD => ?_)
            · have hnm : 4503599627370496 ≤ dC v := (pk_lLE (a := 4503599627370496) (b := dC v) (by decide) (by omega)).mp cD
              refine lv_lload_n hx hb dX2_bitsOf_140 rfl (lv_at hl 4 rfl) ?_
              refine lv_iload hx hb dX2_bitsOf_141 (lv_at hl 2 rfl) ?_
              refine lv_sipush (v := nI 1023) hx hb dX2_bitsOf_143 (by decide) ?_
              refine lv_iadd hx hb dX2_bitsOf_146 ?_
              refine lv_i2l hx hb dX2_bitsOf_147 rfl ?_
              refine lv_topl (fun y8 ey8 => ?_)
              have ey8 : lN (dK v + 1) = y8 := (ey8.trans (exp_l he hk1)).symm
              subst ey8
              refine lv_bipush (v := nI 52) hx hb dX2_bitsOf_148 (by decide) ?_
              refine lv_lshl hx hb dX2_bitsOf_150 rfl ?_
              refine lv_lor hx hb dX2_bitsOf_151 ?_
              refine lv_lload hx hb dX2_bitsOf_152 (lv_at hl 0 rfl) ?_
              refine lv_lload hx hb dX2_bitsOf_154 (lv_at hl 1 rfl) ?_
              refine lv_lsub hx hb dX2_bitsOf_156 ?_
              refine lv_topl (fun y9 ey9 => ?_)
              have ey9 : lN (dC v - 2 ^ 52) = y9 := (ey9.trans (lN_sb hnm)).symm
              subst ey9
              refine lv_lor hx hb dX2_bitsOf_157 ?_
              exact W.lret (v := ((sgB (dS v) ||| ((lN (dK v + 1)) <<< ((nI 52).toInt64 &&& 63))) ||| lN (dC v - 2 ^ 52))) hx hb hr (fun t ht hW => ⟨((sgB (dS v) ||| ((lN (dK v + 1)) <<< ((nI 52).toInt64 &&& 63))) ||| lN (dC v - 2 ^ 52)), rfl, (by unfold bsD bsB; rw [if_neg (show ¬ dC v < 2 ^ 52 by omega)]), ht⟩) (fun q hq => absurd hq List.not_mem_nil) dX2_bitsOf_158
            · refine lv_lload_n hx hb dX2_bitsOf_135 rfl (lv_at hl 4 rfl) ?_
              refine lv_lload hx hb dX2_bitsOf_136 (lv_at hl 0 rfl) ?_
              refine lv_lor hx hb dX2_bitsOf_138 ?_
              exact W.lret (v := (sgB (dS v) ||| lN (dC v))) hx hb hr (fun t ht hW => ⟨(sgB (dS v) ||| lN (dC v)), rfl, (by unfold bsD bsB; rw [if_pos (show dC v < 2 ^ 52 from Nat.not_le.mp (fun q9 => cD ((pk_lLE (a := 4503599627370496) (b := dC v) (by decide) (by omega)).mpr q9)))]), ht⟩) (fun q hq => absurd hq List.not_mem_nil) dX2_bitsOf_139
          · refine lv_iload hx hb dX2_bitsOf_91 (lv_at hl 0 rfl) ?_
            refine lv_sipush (v := -1022) hx hb dX2_bitsOf_93 (by decide) ?_
            refine lv_icmp_le (tgt := 113) hx hb dX2_bitsOf_96 (by decide) (fun c9 => ?_) (fun c9 => ?_)
            · have hj9 : j0 = 1022 := by have h9 : e0.toInt ≤ -1022 := (by have := Int32.le_iff_toInt_le.mp c9; rw [show (-1022 : Int32).toInt = -1022 by decide] at this; exact this); omega
              rw [hj9] at hp he
              refine lv_ldc2 hx hb hown (hts _ (List.mem_of_getElem? (i := 3) rfl)) dX2_bitsOf_113 ?_
              refine lv_lstore (lv' := [(7, .long 4503599627370496), (6, .int e0), (4, .double b), (2, .long (sgB (dS v)))]) hx hb dX2_bitsOf_116 hl (by decide) rfl (fun ls hl => ?_)
              have hp2 : pR (dC v) 1074 (FP.dmul b (FP.l2d 4503599627370496)) := by rw [l2d_52]; exact pR_52 hp hc1
              refine lv_dload hx hb dX2_bitsOf_118 (lv_at hl 2 rfl) ?_
              refine lv_lload hx hb dX2_bitsOf_120 (lv_at hl 0 rfl) ?_
              refine lv_l2d hx hb dX2_bitsOf_122 ?_
              refine lv_dmul hx hb dX2_bitsOf_123 (n64_fin hp2.1) ?_
              refine lv_d2l hx hb dX2_bitsOf_124 ?_
              refine lv_topl (fun y10 ey10 => ?_)
              have ey10 : lN (dC v) = y10 := (ey10.trans (pR_l hp2 hc1)).symm
              subst ey10
              refine lv_lstore (lv' := [(9, .long (lN (dC v))), (7, .long 4503599627370496), (6, .int e0), (4, .double b), (2, .long (sgB (dS v)))]) hx hb dX2_bitsOf_125 hl (by decide) rfl (fun ls hl => ?_)
              refine lv_lload hx hb dX2_bitsOf_127 (lv_at hl 0 rfl) ?_
              refine lv_lload hx hb dX2_bitsOf_129 (lv_at hl 1 rfl) ?_
              refine wl_ge (tgt := 140) hx hb dX2_bitsOf_131 dX2_bitsOf_132 (by decide) (fun cD => ?_) (fun cD => ?_)
              · have hnm : 4503599627370496 ≤ dC v := (pk_lLE (a := 4503599627370496) (b := dC v) (by decide) (by omega)).mp cD
                refine lv_lload_n hx hb dX2_bitsOf_140 rfl (lv_at hl 4 rfl) ?_
                refine lv_iload hx hb dX2_bitsOf_141 (lv_at hl 2 rfl) ?_
                refine lv_sipush (v := nI 1023) hx hb dX2_bitsOf_143 (by decide) ?_
                refine lv_iadd hx hb dX2_bitsOf_146 ?_
                refine lv_i2l hx hb dX2_bitsOf_147 rfl ?_
                refine lv_topl (fun y11 ey11 => ?_)
                have ey11 : lN (dK v + 1) = y11 := (ey11.trans (exp_l he hk1)).symm
                subst ey11
                refine lv_bipush (v := nI 52) hx hb dX2_bitsOf_148 (by decide) ?_
                refine lv_lshl hx hb dX2_bitsOf_150 rfl ?_
                refine lv_lor hx hb dX2_bitsOf_151 ?_
                refine lv_lload hx hb dX2_bitsOf_152 (lv_at hl 0 rfl) ?_
                refine lv_lload hx hb dX2_bitsOf_154 (lv_at hl 1 rfl) ?_
                refine lv_lsub hx hb dX2_bitsOf_156 ?_
                refine lv_topl (fun y12 ey12 => ?_)
                have ey12 : lN (dC v - 2 ^ 52) = y12 := (ey12.trans (lN_sb hnm)).symm
                subst ey12
                refine lv_lor hx hb dX2_bitsOf_157 ?_
                exact W.lret (v := ((sgB (dS v) ||| ((lN (dK v + 1)) <<< ((nI 52).toInt64 &&& 63))) ||| lN (dC v - 2 ^ 52))) hx hb hr (fun t ht hW => ⟨((sgB (dS v) ||| ((lN (dK v + 1)) <<< ((nI 52).toInt64 &&& 63))) ||| lN (dC v - 2 ^ 52)), rfl, (by unfold bsD bsB; rw [if_neg (show ¬ dC v < 2 ^ 52 by omega)]), ht⟩) (fun q hq => absurd hq List.not_mem_nil) dX2_bitsOf_158
              · refine lv_lload_n hx hb dX2_bitsOf_135 rfl (lv_at hl 4 rfl) ?_
                refine lv_lload hx hb dX2_bitsOf_136 (lv_at hl 0 rfl) ?_
                refine lv_lor hx hb dX2_bitsOf_138 ?_
                exact W.lret (v := (sgB (dS v) ||| lN (dC v))) hx hb hr (fun t ht hW => ⟨(sgB (dS v) ||| lN (dC v)), rfl, (by unfold bsD bsB; rw [if_pos (show dC v < 2 ^ 52 from Nat.not_le.mp (fun q9 => cD ((pk_lLE (a := 4503599627370496) (b := dC v) (by decide) (by omega)).mpr q9)))]), ht⟩) (fun q hq => absurd hq List.not_mem_nil) dX2_bitsOf_139
            · have h99 : ¬ e0.toInt ≤ -1022 := fun q9 => c9 (Int32.le_iff_toInt_le.mpr (by rw [show (-1022 : Int32).toInt = -1022 by decide]; exact q9))
              have hj9 : j0 < 1022 := by rcases Nat.lt_or_ge (dC v) (2 ^ 52) with h9 | h9; (omega); (exact (pR_lt1 hp hc1 h9).mp c8)
              refine lv_dload hx hb dX2_bitsOf_99 (lv_at hl 1 rfl) ?_
              refine lv_ldc2d hx hb hown (hts _ (List.mem_of_getElem? (i := 2) rfl)) dX2_bitsOf_101 ?_
              refine lv_dmul hx hb dX2_bitsOf_104 (n64_fin (pR_dbl hp hc1 (by omega)).1) ?_
              refine lv_topd (fun x13 ex13 => ?_)
              refine lv_dstore (lv' := [(4, .double x13), (6, .int e0), (2, .long (sgB (dS v)))]) hx hb dX2_bitsOf_105 hl (by decide) rfl (fun ls hl => ?_)
              obtain ⟨x14, ex14⟩ : ∃ y : Int32, y = e0 + (-1) := ⟨_, rfl⟩
              refine lv_iinc (v := x14) (lv' := [(6, .int x14), (4, .double x13), (2, .long (sgB (dS v)))]) hx hb dX2_bitsOf_107 hl (k := 1) rfl (by rw [ex14]; rfl) (by decide) rfl (fun ls hl => ?_)
              refine lv_goto (tgt := 84) hx hb dX2_bitsOf_110 (by decide) ?_
              exact ihb (1022 - (j0 + 1)) (j0 + 1, x14, x13) ls (by omega) ⟨rfl, (by rw [ex13]; exact pR_dbl hp hc1 (by omega)), (by show x14.toInt = (dK v : Int) - (j0 + 1 : Nat); rw [ex14, i32_dec (by omega), he]; omega), (by show j0 + 1 ≤ 1022; omega), lv_sub hl [0, 1, 2] rfl⟩
        · have hj9 : 1023 ≤ j0 := by rcases Nat.lt_or_ge (dC v) (2 ^ 52) with h9 | h9; (exact absurd (Or.inl (pR_ge2s hp h9 (by omega))) c6); (exact Nat.not_lt.mp (fun q9 => c6 (Or.inl ((pR_ge2 hp hc1 h9).mpr q9))))
          refine lv_iload hx hb dX2_bitsOf_62 (lv_at hl 0 rfl) ?_
          refine lv_sipush (v := nI 1023) hx hb dX2_bitsOf_64 (by decide) ?_
          refine lv_icmp_ge (tgt := 84) hx hb dX2_bitsOf_67 (by decide) (fun c7 => ?_) (fun c7 => ?_)
          · exact absurd (Int32.le_iff_toInt_le.mp c7) (by rw [he, show (nI 1023).toInt = 1023 by decide]; omega)
          · obtain ⟨j1, rfl⟩ : ∃ j1, j0 = j1 + 1 := ⟨j0 - 1, by omega⟩
            refine lv_dload hx hb dX2_bitsOf_70 (lv_at hl 1 rfl) ?_
            refine lv_ldc2d hx hb hown (hts _ (List.mem_of_getElem? (i := 2) rfl)) dX2_bitsOf_72 ?_
            refine lv_ddiv hx hb dX2_bitsOf_75 (n64_fin (pR_half hp hc1 (by omega)).1) ?_
            refine lv_topd (fun x15 ex15 => ?_)
            refine lv_dstore (lv' := [(4, .double x15), (6, .int e0), (2, .long (sgB (dS v)))]) hx hb dX2_bitsOf_76 hl (by decide) rfl (fun ls hl => ?_)
            obtain ⟨x16, ex16⟩ : ∃ y : Int32, y = e0 + (1) := ⟨_, rfl⟩
            refine lv_iinc (v := x16) (lv' := [(6, .int x16), (4, .double x15), (2, .long (sgB (dS v)))]) hx hb dX2_bitsOf_78 hl (k := 1) rfl (by rw [ex16]; rfl) (by decide) rfl (fun ls hl => ?_)
            refine lv_goto (tgt := 53) hx hb dX2_bitsOf_81 (by decide) ?_
            exact iha (j1) (j1, x16, x15) ls (by omega) ⟨rfl, (by rw [ex15]; exact pR_half hp hc1 (by omega)), (by show x16.toInt = (dK v : Int) - j1; rw [ex16, i32_inc (by omega), he]; omega), (by show j1 ≤ dK v; omega), lv_sub hl [0, 1, 2] rfl⟩
  · refine lv_dconst1 hx hb dX2_bitsOf_6 ?_
    refine lv_dload_n hx hb dX2_bitsOf_7 rfl (lv_at hl 0 rfl) ?_
    refine lv_ddiv hx hb dX2_bitsOf_8 (inv_n hv ((eq_V hv).mp c1)) ?_
    refine lv_dconst0 hx hb dX2_bitsOf_9 ?_
    refine wd_gge (tgt := 20) hx hb dX2_bitsOf_10 dX2_bitsOf_11 (by decide) (fun c2 => ?_) (fun c2 => ?_)
    · refine lv_lconst (v := 0) hx hb dX2_bitsOf_20 rfl ?_
      have hz0 := (eq_V hv).mp c1
      have hd0 : dC v = 0 := by have h9 := (dec64 hv).2.2.2; have h8 := zV_abs v; rw [hz0, h9] at h8; rcases Nat.mul_eq_zero.mp h8.symm with h7 | h7; (exact h7); (exact absurd h7 (Nat.ne_of_gt (Nat.two_pow_pos _)))
      exact W.lret (v := 0) hx hb hr (fun t ht hW => ⟨0, rfl, (by unfold bsD bsB; rw [hd0, if_pos (by decide), show dS v = false by cases h9 : dS v; (rfl); (exact absurd ((inv_lt hv hz0).mpr h9) c2)]; decide), ht⟩) (fun q hq => absurd hq List.not_mem_nil) dX2_bitsOf_21
    · refine lv_ldc2 hx hb hown (hts _ (List.mem_of_getElem? (i := 1) rfl)) dX2_bitsOf_14 ?_
      refine lv_goto (tgt := 21) hx hb dX2_bitsOf_17 (by decide) ?_
      have hz0 := (eq_V hv).mp c1
      have hd0 : dC v = 0 := by have h9 := (dec64 hv).2.2.2; have h8 := zV_abs v; rw [hz0, h9] at h8; rcases Nat.mul_eq_zero.mp h8.symm with h7 | h7; (exact h7); (exact absurd h7 (Nat.ne_of_gt (Nat.two_pow_pos _)))
      exact W.lret (v := (-9223372036854775808)) hx hb hr (fun t ht hW => ⟨(-9223372036854775808), rfl, (by unfold bsD bsB; rw [hd0, if_pos (by decide), (inv_lt hv hz0).mp c2]; decide), ht⟩) (fun q hq => absurd hq List.not_mem_nil) dX2_bitsOf_21
theorem euclS {P Q j : Nat} (h0 : 0 < Q) (h28 : Q < 2 ^ 28) (h : j = 0 ∨ 1 ≤ j ∧ Q < P ∧ P * Q * 2 ^ (j - 1) < 2 ^ 56) : Q * (P % Q) * 2 ^ (j + 1 - 1) < 2 ^ 56 := by
  rcases h with h | ⟨h1, h2, h3⟩
  · subst h
    have h1 := Nat.mod_lt P h0
    have h2 : Q * (P % Q) < 2 ^ 28 * 2 ^ 28 := Nat.mul_lt_mul_of_lt_of_le h28 (by omega) (by decide)
    show Q * (P % Q) * 1 < 2 ^ 56
    omega
  · obtain ⟨i, rfl⟩ : ∃ i, j = i + 1 := ⟨j - 1, by omega⟩
    exact eucl h2 h0 h3
theorem euclE {P Q j : Nat} (h0 : 0 < Q) (hj : 100 ≤ j) (h : j = 0 ∨ 1 ≤ j ∧ Q < P ∧ P * Q * 2 ^ (j - 1) < 2 ^ 56) : False := by
  rcases h with h | ⟨h1, h2, h3⟩
  · omega
  · have h4 : 1 * 2 ^ 56 ≤ P * Q * 2 ^ (j - 1) := Nat.mul_le_mul (Nat.mul_pos (by omega) h0) (Nat.pow_le_pow_right (by decide) (by omega))
    omega
theorem hd_X2_commonDivisor : yX2_commonDivisor.cls ≠ "java/lang/invoke/MethodHandle" ∧ yX2_commonDivisor.cls ≠ "java/lang/invoke/VarHandle" ∧ (parseMethodDescriptor yX2_commonDivisor.desc).map (fun d => d.parameters.length) = some 2 := by decide +kernel
set_option maxHeartbeats 4000000 in
set_option maxRecDepth 100000 in
/-- commonDivisor(a, b) -/
theorem c_X2_commonDivisor (l : Launch) (a : Int64) (n : Nat) (ha : a.toInt ≠ -2 ^ 63) (hn0 : 0 < n) (hn28 : n < 2 ^ 28) : Met l yX2_commonDivisor wsX2_commonDivisor ({ frames := 1, cells := 0, slots := 0, locals := 31 }) (va_Pc [.long a, .long (lN n)] (fun _ => True)) (vp_Sl (fun r => r = lN (Nat.gcd a.toInt.natAbs n))) 0 0 (fun _ => False) := by
  refine Met.ofW (cc := cX2_commonDivisor) (maxL := 11) (ret := (some .long)) (by decide) rfl ?_
  intro p e s m args below meth c s₁ B hml hv
  obtain ⟨rfl, -⟩ := hv
  have hx := B.exec
  have hb := B.bytes
  have hr := B.returns
  have hts := atoms_spec (ws := wsX2_commonDivisor) B.pre
  have hown : s.vm.findClass RX2 = some m.cls := findClass_of_methodNamed B.named
  have hlocks := B.notSynchronized
  have hl := lv_entry ([.long a, .long (lN n)]) (n := 11) (Nat.le_of_ble_eq_true rfl)
  rw [lg_entry_eq]
  generalize (lg_sl ([.long a, .long (lN n)]) ++ List.replicate (11 - (lg_sl ([.long a, .long (lN n)])).length) Slot.unset).toArray = ls at hl ⊢
  have hl : lv_has ls 11 [(0, .long a), (2, .long (lN n))] := hl
  refine lv_lload_n hx hb dX2_commonDivisor_0 rfl (lv_at hl 0 rfl) ?_
  refine va_mabs_long hx hb (hml.trans hl.1.symm) hown (hts (Cond.methodLink RX2 228 Lib.MathLoose.abs_long.x) (List.mem_of_getElem? (i := 1) rfl)) (hts (Cond.static Lib.MathLoose.abs_long.x) (List.mem_of_getElem? (i := 2) rfl)) (hts (Cond.initialized "java/lang/Math") (List.mem_of_getElem? (i := 3) rfl)) (hts (Cond.code Lib.MathLoose.abs_long.x Lib.MathLoose.abs_long.code 2 (some .long)) (List.mem_of_getElem? (i := 4) rfl)) (Nat.le_of_ble_eq_true rfl) (Nat.le_of_ble_eq_true rfl) (Nat.le_of_ble_eq_true rfl) (Nat.le_of_ble_eq_true rfl) dX2_commonDivisor_1 ?_
  refine lv_topl (fun y1 ey1 => ?_)
  have ey1 : lN a.toInt.natAbs = y1 := (ey1.trans (mabs_nat ha)).symm
  subst ey1
  refine lv_lstore (lv' := [(4, .long (lN a.toInt.natAbs)), (0, .long a), (2, .long (lN n))]) hx hb dX2_commonDivisor_4 hl (by decide) rfl (fun ls hl => ?_)
  refine lv_lload_n hx hb dX2_commonDivisor_6 rfl (lv_at hl 2 rfl) ?_
  refine va_mabs_long hx hb (hml.trans hl.1.symm) hown (hts (Cond.methodLink RX2 228 Lib.MathLoose.abs_long.x) (List.mem_of_getElem? (i := 1) rfl)) (hts (Cond.static Lib.MathLoose.abs_long.x) (List.mem_of_getElem? (i := 2) rfl)) (hts (Cond.initialized "java/lang/Math") (List.mem_of_getElem? (i := 3) rfl)) (hts (Cond.code Lib.MathLoose.abs_long.x Lib.MathLoose.abs_long.code 2 (some .long)) (List.mem_of_getElem? (i := 4) rfl)) (Nat.le_of_ble_eq_true rfl) (Nat.le_of_ble_eq_true rfl) (Nat.le_of_ble_eq_true rfl) (Nat.le_of_ble_eq_true rfl) dX2_commonDivisor_7 ?_
  refine lv_topl (fun y2 ey2 => ?_)
  have ey2 : lN n = y2 := (ey2.trans (mabs_lN (by omega))).symm
  subst ey2
  refine lv_lstore (lv' := [(6, .long (lN n)), (4, .long (lN a.toInt.natAbs)), (0, .long a), (2, .long (lN n))]) hx hb dX2_commonDivisor_10 hl (by decide) rfl (fun ls hl => ?_)
  refine lv_iconst (v := nI 0) hx hb dX2_commonDivisor_12 (by decide) ?_
  refine lv_istore (lv' := [(8, .int (nI 0)), (6, .long (lN n)), (4, .long (lN a.toInt.natAbs)), (0, .long a), (2, .long (lN n))]) hx hb dX2_commonDivisor_13 hl (by decide) rfl (fun ls hl => ?_)
  refine wLoopR (σ := Nat × Nat × Nat) (fun k x ls => k = 100 - x.1 ∧ (Nat.gcd x.2.1 x.2.2 = Nat.gcd a.toInt.natAbs n) ∧ (x.2.1 < 2 ^ 63) ∧ (x.2.2 < 2 ^ 28) ∧ (x.1 ≤ 100) ∧ (x.1 = 0 ∨ 1 ≤ x.1 ∧ x.2.2 < x.2.1 ∧ x.2.1 * x.2.2 * 2 ^ (x.1 - 1) < 2 ^ 56) ∧ lv_has ls 11 [(8, .int (nI x.1)), (6, .long (lN x.2.2)), (4, .long (lN x.2.1))]) ?_ _ (0, a.toInt.natAbs, n) _ ⟨rfl, rfl, (by have h1 := Int64.toInt_lt a; have h2 := Int64.le_toInt a; show a.toInt.natAbs < 2 ^ 63; omega), hn28, (by show 0 ≤ 100; omega), (Or.inl rfl), lv_sub hl [0, 1, 2] rfl⟩
  intro ka x ls hI iha
  obtain ⟨j0, P0, Q0⟩ := x
  obtain ⟨hka, hg, hP2, hQ2, hj, hE, hl⟩ := hI
  have hka : ka = 100 - j0 := hka
  have hg : Nat.gcd P0 Q0 = Nat.gcd a.toInt.natAbs n := hg
  have hP2 : P0 < 2 ^ 63 := hP2
  have hQ2 : Q0 < 2 ^ 28 := hQ2
  have hj : j0 ≤ 100 := hj
  have hE : j0 = 0 ∨ 1 ≤ j0 ∧ Q0 < P0 ∧ P0 * Q0 * 2 ^ (j0 - 1) < 2 ^ 56 := hE
  have hl : lv_has ls 11 [(8, .int (nI j0)), (6, .long (lN Q0)), (4, .long (lN P0))] := hl
  refine lv_iload hx hb dX2_commonDivisor_15 (lv_at hl 0 rfl) ?_
  refine lv_bipush (v := nI 100) hx hb dX2_commonDivisor_17 (by decide) ?_
  refine wn_icmp_ge (tgt := 50) hx hb dX2_commonDivisor_19 (by decide) (by omega) (by omega) (fun cH => ?_) (fun cH => ?_)
  · have hq9 : Q0 = 0 := by rcases Nat.eq_zero_or_pos Q0 with h9 | h9; (exact h9); (exact absurd (euclE h9 (by omega) hE) id)
    have hg9 : P0 = Nat.gcd a.toInt.natAbs n := by rw [← hg, hq9, Nat.gcd_zero_right]
    have hg0 : 0 < P0 := by rw [hg9]; exact Nat.gcd_pos_of_pos_right _ hn0
    refine lv_lload hx hb dX2_commonDivisor_50 (lv_at hl 2 rfl) ?_
    refine lv_lconst (v := 1) hx hb dX2_commonDivisor_52 rfl ?_
    refine va_mmax_long hx hb (hml.trans hl.1.symm) hown (hts (Cond.methodLink RX2 233 Lib.MathLoose.max_long.x) (List.mem_of_getElem? (i := 5) rfl)) (hts (Cond.static Lib.MathLoose.max_long.x) (List.mem_of_getElem? (i := 6) rfl)) (hts (Cond.initialized "java/lang/Math") (List.mem_of_getElem? (i := 3) rfl)) (hts (Cond.code Lib.MathLoose.max_long.x Lib.MathLoose.max_long.code 4 (some .long)) (List.mem_of_getElem? (i := 7) rfl)) (Nat.le_of_ble_eq_true rfl) (Nat.le_of_ble_eq_true rfl) (Nat.le_of_ble_eq_true rfl) (Nat.le_of_ble_eq_true rfl) dX2_commonDivisor_53 ?_
    exact W.lret (v := (if 1 < lN P0 then lN P0 else 1)) hx hb hr (fun t ht hW => ⟨(if 1 < lN P0 then lN P0 else 1), rfl, (by rw [← hg9]; exact mmax1 hg0 hP2), ht⟩) (fun q hq => absurd hq List.not_mem_nil) dX2_commonDivisor_56
  · refine lv_lload hx hb dX2_commonDivisor_22 (lv_at hl 1 rfl) ?_
    refine lv_lconst (v := 0) hx hb dX2_commonDivisor_24 rfl ?_
    refine wl_eq (tgt := 50) hx hb dX2_commonDivisor_25 dX2_commonDivisor_26 (by decide) (fun c2 => ?_) (fun c2 => ?_)
    · have hq9 : Q0 = 0 := lN_0 (by omega) c2
      have hg9 : P0 = Nat.gcd a.toInt.natAbs n := by rw [← hg, hq9, Nat.gcd_zero_right]
      have hg0 : 0 < P0 := by rw [hg9]; exact Nat.gcd_pos_of_pos_right _ hn0
      refine lv_lload hx hb dX2_commonDivisor_50 (lv_at hl 2 rfl) ?_
      refine lv_lconst (v := 1) hx hb dX2_commonDivisor_52 rfl ?_
      refine va_mmax_long hx hb (hml.trans hl.1.symm) hown (hts (Cond.methodLink RX2 233 Lib.MathLoose.max_long.x) (List.mem_of_getElem? (i := 5) rfl)) (hts (Cond.static Lib.MathLoose.max_long.x) (List.mem_of_getElem? (i := 6) rfl)) (hts (Cond.initialized "java/lang/Math") (List.mem_of_getElem? (i := 3) rfl)) (hts (Cond.code Lib.MathLoose.max_long.x Lib.MathLoose.max_long.code 4 (some .long)) (List.mem_of_getElem? (i := 7) rfl)) (Nat.le_of_ble_eq_true rfl) (Nat.le_of_ble_eq_true rfl) (Nat.le_of_ble_eq_true rfl) (Nat.le_of_ble_eq_true rfl) dX2_commonDivisor_53 ?_
      exact W.lret (v := (if 1 < lN P0 then lN P0 else 1)) hx hb hr (fun t ht hW => ⟨(if 1 < lN P0 then lN P0 else 1), rfl, (by rw [← hg9]; exact mmax1 hg0 hP2), ht⟩) (fun q hq => absurd hq List.not_mem_nil) dX2_commonDivisor_56
    · have hQ0 : 0 < Q0 := lN_n0 (by omega) c2
      refine lv_lload hx hb dX2_commonDivisor_29 (lv_at hl 2 rfl) ?_
      refine lv_lload hx hb dX2_commonDivisor_31 (lv_at hl 1 rfl) ?_
      refine lv_lrem hx hb dX2_commonDivisor_33 c2 ?_
      refine lv_topl (fun y3 ey3 => ?_)
      have ey3 : lN (P0 % Q0) = y3 := (ey3.trans (pk_lRem hP2 hQ0 (by omega))).symm
      subst ey3
      refine lv_lstore (lv' := [(9, .long (lN (P0 % Q0))), (8, .int (nI j0)), (6, .long (lN Q0)), (4, .long (lN P0))]) hx hb dX2_commonDivisor_34 hl (by decide) rfl (fun ls hl => ?_)
      refine lv_lload hx hb dX2_commonDivisor_36 (lv_at hl 2 rfl) ?_
      refine lv_lstore (lv' := [(4, .long (lN Q0)), (9, .long (lN (P0 % Q0))), (8, .int (nI j0)), (6, .long (lN Q0))]) hx hb dX2_commonDivisor_38 hl (by decide) rfl (fun ls hl => ?_)
      refine lv_lload hx hb dX2_commonDivisor_40 (lv_at hl 1 rfl) ?_
      refine lv_lstore (lv' := [(6, .long (lN (P0 % Q0))), (4, .long (lN Q0)), (9, .long (lN (P0 % Q0))), (8, .int (nI j0))]) hx hb dX2_commonDivisor_42 hl (by decide) rfl (fun ls hl => ?_)
      refine lv_iinc (v := (nI (j0 + 1))) (lv' := [(8, .int (nI (j0 + 1))), (6, .long (lN (P0 % Q0))), (4, .long (lN Q0)), (9, .long (lN (P0 % Q0)))]) hx hb dX2_commonDivisor_44 hl (k := 3) rfl (nI_1 _) (by decide) rfl (fun ls hl => ?_)
      refine lv_goto (tgt := 15) hx hb dX2_commonDivisor_47 (by decide) ?_
      exact iha (100 - (j0 + 1)) (j0 + 1, Q0, P0 % Q0) ls (by omega) ⟨rfl, (by show Nat.gcd Q0 (P0 % Q0) = _; rw [← hg, Nat.gcd_comm P0 Q0, Nat.gcd_rec Q0 P0, Nat.gcd_comm]), (by show Q0 < 2 ^ 63; omega), (by show P0 % Q0 < 2 ^ 28; have := Nat.mod_lt P0 hQ0; omega), (by show j0 + 1 ≤ 100; omega), (Or.inr ⟨by show 1 ≤ j0 + 1; omega, Nat.mod_lt P0 hQ0, euclS hQ0 hQ2 hE⟩), lv_sub hl [0, 1, 2] rfl⟩
theorem oe_ot : ∀ c, c < 9 → ∀ s, s < 4 → (if fe (lk c s) = c then se (lk c s) else fe (lk c s)) = ot c s := by decide
theorem hd_X2_otherEnd : yX2_otherEnd.cls ≠ "java/lang/invoke/MethodHandle" ∧ yX2_otherEnd.cls ≠ "java/lang/invoke/VarHandle" ∧ (parseMethodDescriptor yX2_otherEnd.desc).map (fun d => d.parameters.length) = some 2 := by decide +kernel
set_option maxHeartbeats 4000000 in
set_option maxRecDepth 100000 in
/-- otherEnd(link, cell) -/
theorem c_X2_otherEnd (l : Launch) (tt : Nat × Nat) (k0 c0 : Nat) (hk0 : k0 < 24) (hc0 : c0 < 9) : Met l yX2_otherEnd wsX2_otherEnd ({ frames := 0, cells := 0, slots := 0, locals := 0 }) (va_Pc [.int (nI k0), .int (nI c0)] (rdS tt)) (vp_Si (fun r => r = nI (if fe k0 = c0 then se k0 else fe k0))) 0 0 (fun _ => False) := by
  refine Met.ofW (cc := cX2_otherEnd) (maxL := 2) (ret := (some .int)) (by decide) rfl ?_
  intro p e s m args below meth c s₁ B hml hv
  obtain ⟨rfl, hSt⟩ := hv
  have hx := B.exec
  have hb := B.bytes
  have hr := B.returns
  have hts := atoms_spec (ws := wsX2_otherEnd) B.pre
  have hown : s.vm.findClass RX2 = some m.cls := findClass_of_methodNamed B.named
  have hlocks := B.notSynchronized
  have hS : va_S (fun _ => False) s.heap s.heap [] := va_S.rf
  have hf1 := fe_lt k0 hk0
  have hl := lv_entry ([.int (nI k0), .int (nI c0)]) (n := 2) (Nat.le_of_ble_eq_true rfl)
  rw [lg_entry_eq]
  generalize (lg_sl ([.int (nI k0), .int (nI c0)]) ++ List.replicate (2 - (lg_sl ([.int (nI k0), .int (nI c0)])).length) Slot.unset).toArray = ls at hl ⊢
  have hl : lv_has ls 2 [(0, .int (nI k0)), (1, .int (nI c0))] := hl
  refine va_gets hx hb hSt.1.1 hS hown (hts (Cond.fieldLink RX2 216 "HeadGrid" "FIRST_ENDS" "[I") (List.mem_of_getElem? (i := 1) rfl)) (fun _ h9 => h9) dX2_otherEnd_0 ?_
  refine lv_iload_n hx hb dX2_otherEnd_3 rfl (lv_at hl 0 rfl) ?_
  refine wa_ti hx hb hSt.1.2 hS (f := fun j9 => nI (fe j9)) (i := k0) (by omega) (by decide) dX2_otherEnd_4 ?_
  refine lv_iload_n hx hb dX2_otherEnd_5 rfl (lv_at hl 1 rfl) ?_
  refine wn_icmp_ne (tgt := 17) hx hb dX2_otherEnd_6 (by decide) (by omega) (by omega) (fun cE => ?_) (fun cE => ?_)
  · refine va_gets hx hb hSt.1.1 hS hown (hts (Cond.fieldLink RX2 216 "HeadGrid" "FIRST_ENDS" "[I") (List.mem_of_getElem? (i := 1) rfl)) (fun _ h9 => h9) dX2_otherEnd_17 ?_
    refine lv_iload_n hx hb dX2_otherEnd_20 rfl (lv_at hl 0 rfl) ?_
    refine wa_ti hx hb hSt.1.2 hS (f := fun j9 => nI (fe j9)) (i := k0) (by omega) (by decide) dX2_otherEnd_21 ?_
    exact W.iret (v := (nI (fe k0))) hx hb hr (fun t ht hW => ⟨(nI (fe k0)), rfl, by rw [if_neg cE], ht⟩) (fun q hq => absurd hq List.not_mem_nil) dX2_otherEnd_22
  · refine va_gets hx hb hSt.2.1.1 hS hown (hts (Cond.fieldLink RX2 222 "HeadGrid" "SECOND_ENDS" "[I") (List.mem_of_getElem? (i := 2) rfl)) (fun _ h9 => h9) dX2_otherEnd_9 ?_
    refine lv_iload_n hx hb dX2_otherEnd_12 rfl (lv_at hl 0 rfl) ?_
    refine wa_ti hx hb hSt.2.1.2 hS (f := fun j9 => nI (se j9)) (i := k0) (by omega) (by decide) dX2_otherEnd_13 ?_
    refine lv_goto (tgt := 22) hx hb dX2_otherEnd_14 (by decide) ?_
    exact W.iret (v := (nI (se k0))) hx hb hr (fun t ht hW => ⟨(nI (se k0)), rfl, by rw [if_pos cE], ht⟩) (fun q hq => absurd hq List.not_mem_nil) dX2_otherEnd_22

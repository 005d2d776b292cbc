set_option maxHeartbeats 4000000 in
set_option maxRecDepth 100000 in
/-- from the entry, for every script of at most 2048 ints, the law comes to its end with true -/
theorem whole_start {p : Program} {e : Env} {s : State} {m : MethodId} {below : List Frame} {meth : Method} {c : Code} (l : Launch) (hflags : l.flags = flags0) {b L : Nat} {xs : Nat → Int32} (hL : L ≤ 2048) (C0 : lw_At p s m meth c b L xs) : W p l e room_1 s m #[Value.ref b] below meth c s.heap [] 0 0 (lw_Z below #[Value.ref b] s) (entryFrame m ([Value.ref b] : List Value).toArray 9) := by
  obtain ⟨hx, hb, hr, hml, hown, hts0, hX, hbl, hlocks, hgv⟩ := C0
  have hlt : l.stackTraces = false := by
    unfold Launch.stackTraces
    rw [hflags]
    decide +kernel
  have hts : ∀ w ∈ wsL_law, w.before #[Value.ref b] s = true := fun w h => hts0 w (wsL_law_in w h)
  obtain ⟨dd, cy, hK, hO⟩ := lw_K hts0
  obtain ⟨tt, hSt⟩ := lw_St hts0 hgv
  obtain ⟨N, hE⟩ := lw_Ex hts0 hgv
  have hN := lw_Nc hgv
  have hown : s.vm.findClass RL = some m.cls := hown
  have hA : ∀ q : Nat, s.heap.size ≤ q → lA s q := fun _ h => h
  have hS : va_S (lA s) s.heap s.heap [] := va_S.rf
  have hP : va_P dd vwCl [] s.heap := fun k q h => by simp at h
  have hD : va_D (lA s) [] := ⟨fun i j p q h => by simp at h, fun k q h => by simp at h⟩
  have hl := lv_entry ([.ref b]) (n := 9) (Nat.le_of_ble_eq_true rfl)
  rw [lg_entry_eq]
  generalize (lg_sl ([.ref b]) ++ List.replicate (9 - (lg_sl ([.ref b])).length) Slot.unset).toArray = ls at hl ⊢
  have hl : lv_has ls 9 [(0, .ref b)] := hl
  refine va_new (ci := 4) (fs := [.null, .null, .int 0, .null, .int 0, .null, .null]) (C := RX2) (T := TX2) (N := 7) hx hb hts0 inX2 tyX2 tyX2_ok hown (hts0 (Cond.classLink RL 8 RX2) (List.mem_of_getElem? (i := 68) (by decide +kernel))) (hts0 (Cond.instantiable RX2 7) (List.mem_of_getElem? (i := 69) (by decide +kernel))) (hts0 (Cond.initialized RX2) (List.mem_of_getElem? (i := 52) (by decide +kernel))) hK hP hD hS hA rfl (fun j hj => by rcases (show j = 0 ∨ j = 1 ∨ j = 2 ∨ j = 3 ∨ j = 4 ∨ j = 5 ∨ j = 6 by omega) with rfl | rfl | rfl | rfl | rfl | rfl | rfl <;> rfl) (Nat.le_of_ble_eq_true rfl) (Nat.le_of_ble_eq_true rfl) dL_law_0 (fun q1 H hP hD hS => ?_)
  have hP : va_P dd vwCl [(q1, .inr (4, [.null, .null, .int 0, .null, .int 0, .null, .null]))] H := hP
  have hD : va_D (lA s) [(q1, .inr (4, [.null, .null, .int 0, .null, .int 0, .null, .null]))] := hD
  refine lv_dup hx hb dL_law_3 rfl ?_
  refine wn_ctor (ws := []) (va_runI (As := []) (rest := [.ref q1]) ⟨hx, hb, hml, hown, hts⟩ (c_X2_init l dd cy q1 _) (cwI 0 hts gL_law_X2_init rfl rfl rfl (hts0 (Cond.initialized RX2) (List.mem_of_getElem? (i := 52) (by decide +kernel))) (hts0 (Cond.methodLink RL 87 yX2_init) (List.mem_of_getElem? (i := 70) (by decide +kernel))) (hts0 (Cond.instanceMethod yX2_init) (List.mem_of_getElem? (i := 71) (by decide +kernel))) rfl hd_X2_init ⟨Nat.le_of_ble_eq_true rfl, Nat.le_of_ble_eq_true rfl⟩) (wrN_S hO hP hK hD) rfl rfl hl.1 rfl (lv_room (Nat.le_of_ble_eq_true rfl)) dL_law_4 ⟨Nat.le_of_ble_eq_true rfl, Nat.le_of_ble_eq_true rfl⟩) hP hD hS hA (fun ad H locs had hP hD hS => ?_)
  have had : ad 0 = q1 := had
  rw [← had]
  have hP : va_P dd vwCl (wC cy ad cs0 ++ []) H := hP
  have hD : va_D (lA s) (wC cy ad cs0 ++ []) := hD
  rw [List.append_nil] at hP hD
  refine lv_astore_n (lv' := [(1, .ref (ad 0)), (0, .ref b)]) hx hb dL_law_7 rfl hl (by decide) rfl (fun ls hl => ?_)
  refine va_new (ci := 5) (fs := [.null, .null, .null, .null, .int 0, .int 0, .null, .null, .null, .null, .long 0, .null, .null, .null, .long 0]) (C := RX3) (T := TX3) (N := 15) hx hb hts0 inX3 tyX3 tyX3_ok hown (hts0 (Cond.classLink RL 88 RX3) (List.mem_of_getElem? (i := 667) (by decide +kernel))) (hts0 (Cond.instantiable RX3 15) (List.mem_of_getElem? (i := 668) (by decide +kernel))) (hts0 (Cond.initialized RX3) (List.mem_of_getElem? (i := 56) (by decide +kernel))) hK hP hD hS hA rfl (fun j hj => by rcases (show j = 0 ∨ j = 1 ∨ j = 2 ∨ j = 3 ∨ j = 4 ∨ j = 5 ∨ j = 6 ∨ j = 7 ∨ j = 8 ∨ j = 9 ∨ j = 10 ∨ j = 11 ∨ j = 12 ∨ j = 13 ∨ j = 14 by omega) with rfl | rfl | rfl | rfl | rfl | rfl | rfl | rfl | rfl | rfl | rfl | rfl | rfl | rfl | rfl <;> rfl) (Nat.le_of_ble_eq_true rfl) (Nat.le_of_ble_eq_true rfl) dL_law_8 (fun q2 H hP hD hS => ?_)
  refine lv_dup hx hb dL_law_11 rfl ?_
  refine wn_ctor (ws := wC cy ad cs0) (va_runI (As := []) (rest := [.ref q2]) ⟨hx, hb, hml, hown, hts⟩ (c_X3_init l dd cy q2 _) (cwI 0 hts gL_law_X3_init rfl rfl rfl (hts0 (Cond.initialized RX3) (List.mem_of_getElem? (i := 56) (by decide +kernel))) (hts0 (Cond.methodLink RL 90 yX3_init) (List.mem_of_getElem? (i := 669) (by decide +kernel))) (hts0 (Cond.instanceMethod yX3_init) (List.mem_of_getElem? (i := 670) (by decide +kernel))) rfl hd_X3_init ⟨Nat.le_of_ble_eq_true rfl, Nat.le_of_ble_eq_true rfl⟩) (wrW_S (hP.sub (ws' := [(q2, .inr (5, [.null, .null, .null, .null, .int 0, .int 0, .null, .null, .null, .null, .long 0, .null, .null, .null, .long 0]))]) [57] rfl) hK (hD.sub (ws' := [(q2, .inr (5, [.null, .null, .null, .null, .int 0, .int 0, .null, .null, .null, .null, .long 0, .null, .null, .null, .long 0]))]) [57] (by decide) rfl)) rfl rfl hl.1 rfl (lv_room (Nat.le_of_ble_eq_true rfl)) dL_law_12 ⟨Nat.le_of_ble_eq_true rfl, Nat.le_of_ble_eq_true rfl⟩) hP hD hS hA (fun z9 H locs hz9 hP hD hS => ?_)
  obtain ⟨am, mv⟩ := z9
  obtain ⟨h1, h2, h3, h4⟩ := hz9
  have h1 : am 0 = q2 := h1
  rw [← h1]
  have hP : va_P dd vwCl (wC cy ad cs0 ++ (wM cy am mv ++ [])) H := hP
  have hD : va_D (lA s) (wC cy ad cs0 ++ (wM cy am mv ++ [])) := hD
  rw [List.append_nil] at hP hD
  refine lv_astore_n (lv' := [(2, .ref (am 0)), (1, .ref (ad 0)), (0, .ref b)]) hx hb dL_law_15 rfl hl (by decide) rfl (fun ls hl => ?_)
  refine lv_iconst (v := nI 1) hx hb dL_law_16 (by decide) ?_
  refine wa_newJ hx hb (hts0 (Cond.arrayClass .long) (List.mem_of_getElem? (i := 144) (by decide +kernel))) hK hP hD hS hA (n := 1) (by decide) (Nat.le_of_ble_eq_true rfl) (Nat.le_of_ble_eq_true rfl) dL_law_17 (fun o1 H hP hD hS => ?_)
  refine lv_astore_n (lv' := [(3, .ref o1), (2, .ref (am 0)), (1, .ref (ad 0)), (0, .ref b)]) hx hb dL_law_19 rfl hl (by decide) rfl (fun ls hl => ?_)
  refine lv_iconst (v := nI 1) hx hb dL_law_20 (by decide) ?_
  refine wa_newD hx hb (hts0 (Cond.arrayClass .double) (List.mem_of_getElem? (i := 119) (by decide +kernel))) hK hP hD hS hA (n := 1) (by decide) (Nat.le_of_ble_eq_true rfl) (Nat.le_of_ble_eq_true rfl) dL_law_21 (fun o2 H hP hD hS => ?_)
  refine lv_astore (lv' := [(4, .ref o2), (3, .ref o1), (2, .ref (am 0)), (1, .ref (ad 0)), (0, .ref b)]) hx hb dL_law_23 hl (by decide) rfl (fun ls hl => ?_)
  refine lv_iconst (v := nI 0) hx hb dL_law_25 (by decide) ?_
  refine lv_istore (lv' := [(5, .int (nI 0)), (4, .ref o2), (3, .ref o1), (2, .ref (am 0)), (1, .ref (ad 0)), (0, .ref b)]) hx hb dL_law_26 hl (by decide) rfl (fun ls hl => ?_)
  rw [List.append_assoc (wC cy ad cs0 ++ wM cy am mv)] at hP hD
  have hP : va_P dd vwCl (wL cy ad (o1, o2) (wM cy am mv) (cs0, fun _ => 0, fun _ => 0)) H := by rw [wL_Y]; exact va_P.swap hP
  have hD : va_D (lA s) (wL cy ad (o1, o2) (wM cy am mv) (cs0, fun _ => 0, fun _ => 0)) := by rw [wL_Y]; exact va_D.swap hD
  refine W.widen (k := 71 + 4 * 0) (n := 1794 + 24 * 0) (Nat.le_of_ble_eq_true rfl) (Nat.le_of_ble_eq_true rfl) ?_
  exact law_loop (o := (o1, o2)) hlt ⟨hx, hb, hml, hown, hts, hX, hbl, hK, hSt, hE, hN⟩ hr hlocks hL 513 0 0 cs0 mv (fun _ => 0) (fun _ => 0) H locs ls (by decide) (Nat.zero_le _) (tie_0 h2 h3 h4) hP hD hS (lv_sub hl [0, 5, 4, 3, 2, 1] rfl)

set_option maxHeartbeats 4000000 in
set_option maxRecDepth 100000 in
/-- the law: isLoose -/
theorem lc_isLoose {p : Program} {l : Launch} {e : Env} {s : State} {m : MethodId} {below : List Frame} {meth : Method} {c : Code} {Q : State → Prop} {dd : va_G} {cy : Nat → ClassId} {ad am : Nat → Nat} {tt : Nat × Nat} {N : Nat → Nat} {o : Nat × Nat} {b L : Nat} {xs : Nat → Int32} (hlt : l.stackTraces = false) (C0 : lcx p s m c dd cy tt N b L xs) {i n bb cells slots : Nat} {u : CS} {mv : MS} {g : Nat → Int64} {d : Nat → UInt64} {H : Heap} {locs : List Loc} {ls : Array Slot} (hi : i + 4 ≤ L) (hL : L ≤ 2048) (hT : Tie n bb u mv) (hb0 : 1000 ≤ bb) (hb1 : bb + 900000 ≤ 2 ^ 40) (hce0 : cells + 4 ≤ 603072) (hsl0 : slots + 24 ≤ 7219306) (hP : va_P dd vwCl (wL cy ad o (wM cy am mv) (u, g, d)) H) (hD : va_D (lA s) (wL cy ad o (wM cy am mv) (u, g, d))) (hS : va_S (lA s) s.heap H locs) (hl : lv_has ls 9 [(5, .int (nI i)), (0, .ref b), (1, .ref (ad 0)), (2, .ref (am 0)), (3, .ref o.1), (4, .ref o.2)])
    (kk : ∀ (n : Nat) (u : CS) (mv : MS) (g : Nat → Int64) (d : Nat → UInt64) (H : Heap) (locs : List Loc) (ls : Array Slot), Tie n (bb + 900000) u mv → va_P dd vwCl (wL cy ad o (wM cy am mv) (u, g, d)) H → va_D (lA s) (wL cy ad o (wM cy am mv) (u, g, d)) → va_S (lA s) s.heap H locs → lv_has ls 9 [(5, .int (nI i)), (0, .ref b), (1, .ref (ad 0)), (2, .ref (am 0)), (3, .ref o.1), (4, .ref o.2)] → W p l e room_1 s m #[Value.ref b] below meth c H locs (cells + 4) (slots + 24) Q (F0 m 1502 ls [])) : W p l e room_1 s m #[Value.ref b] below meth c H locs cells slots Q (F0 m 504 ls []) := by
  obtain ⟨hx, hb, hml, hown, hts, hX, hbl, hK, hSt, hE, hN⟩ := C0
  have hA : ∀ q : Nat, s.heap.size ≤ q → lA s q := fun _ h => h
  have hbA : ¬ lA s b := Nat.not_le.mpr hbl
  obtain ⟨hn, hc, hk, hok, hsI, e1, e2, hrg, hB, hsv⟩ := id hT
  refine lv_aload_n hx hb dL_law_504 rfl (lv_at hl 2 rfl) ?_
  have hP : va_P dd vwCl (wC cy ad u ++ xL cy o g d (wM cy am mv)) H := hP
  have hD : va_D (lA s) (wC cy ad u ++ xL cy o g d (wM cy am mv)) := hD
  refine wc_calli (va_runV (As := []) (rest := []) ⟨hx, hb, hml, hown, hts⟩ (c_X2_isLoose l dd cy ad (xL cy o g d (wM cy am mv)) tt u _ hrg hsI) (cwV 0 hts gL_law_X2_isLoose rfl rfl rfl hd_X2_isLoose ⟨Nat.le_of_ble_eq_true rfl, Nat.le_of_ble_eq_true rfl⟩) (wrC_V hP hK hD hSt hS hA (wC_0 cy ad u (xL cy o g d (wM cy am mv))) rfl) rfl rfl hl.1 rfl (lv_room (Nat.le_of_ble_eq_true rfl)) dL_law_505 ⟨by show _ ≤ 603072; omega, by show _ ≤ 7219306; omega⟩) hD hS hA (fun r9 u9 H locs hz hP hD hS => ?_)
  have hP : va_P dd vwCl (wL cy ad o (wM cy am mv) (u9, g, d)) H := hP
  have hD : va_D (lA s) (wL cy ad o (wM cy am mv) (u9, g, d)) := hD
  have hP : va_P dd vwCl (wM cy am mv ++ wY cy ad o (u9, g, d)) H := wT_M hP
  have hD : va_D (lA s) (wM cy am mv ++ wY cy ad o (u9, g, d)) := wT_MD hD
  refine lv_aload_n hx hb dL_law_508 rfl (lv_at hl 3 rfl) ?_
  refine wc_calli (va_runV (As := []) (rest := [.int r9]) ⟨hx, hb, hml, hown, hts⟩ (c_X3_isLoose l dd cy am (wY cy ad o (u9, g, d)) mv _ ) (cwV 0 hts gL_law_X3_isLoose rfl rfl rfl hd_X3_isLoose ⟨Nat.le_of_ble_eq_true rfl, Nat.le_of_ble_eq_true rfl⟩) (wrW_V hP hK hD (wM_0 cy am mv (wY cy ad o (u9, g, d))) rfl) rfl rfl hl.1 rfl (lv_room (Nat.le_of_ble_eq_true rfl)) dL_law_509 ⟨by show _ ≤ 603072; omega, by show _ ≤ 7219306; omega⟩) hD hS hA (fun r8 mv9 H locs hw hP hD hS => ?_)
  have hw : r8 = bI (lsM mv) ∧ mv9.2.2.2.2.1 = nI 0 ∧ mv9.1 = mv.1 ∧ mv9.2.1 = mv.2.1 ∧ mv9.2.2.2.1 = mv.2.2.2.1 := hw
  try rw [lsM_N] at hw
  try rw [e1] at hw
  try rw [e2] at hw
  have hq8 : r9 = r8 := by rw [hz.1]; exact hw.1.symm
  refine lv_icmp_eq (tgt := 1502) hx hb dL_law_512 (by decide) (fun _ => ?_) (fun c1 => (by first | exact absurd hq8 c1 | exact absurd c1 hq8))
  refine W.widen (k := cells + 4) (n := slots + 24) (by omega) (by omega) ?_
  exact kk n u9 mv9 g d H locs ls (tie_mono (tie_fr hT hz.2 hw.2.2.1 hw.2.2.2.1 hw.2.2.2.2) (by omega)) (wT_L hP) (wT_LD hD) hS (lv_sub hl [0, 1, 2, 3, 4, 5] rfl)
set_option maxHeartbeats 4000000 in
set_option maxRecDepth 100000 in
/-- the law: head -/
theorem lc_head {p : Program} {l : Launch} {e : Env} {s : State} {m : MethodId} {below : List Frame} {meth : Method} {c : Code} {Q : State → Prop} {dd : va_G} {cy : Nat → ClassId} {ad am : Nat → Nat} {tt : Nat × Nat} {N : Nat → Nat} {o : Nat × Nat} {b L : Nat} {xs : Nat → Int32} (hlt : l.stackTraces = false) (C0 : lcx p s m c dd cy tt N b L xs) {i n bb cells slots : Nat} {u : CS} {mv : MS} {g : Nat → Int64} {d : Nat → UInt64} {H : Heap} {locs : List Loc} {ls : Array Slot} (hi : i + 4 ≤ L) (hL : L ≤ 2048) (hT : Tie n bb u mv) (hb0 : 1000 ≤ bb) (hb1 : bb + 900000 ≤ 2 ^ 40) (hce0 : cells + 4 ≤ 603072) (hsl0 : slots + 24 ≤ 7219306) (hP : va_P dd vwCl (wL cy ad o (wM cy am mv) (u, g, d)) H) (hD : va_D (lA s) (wL cy ad o (wM cy am mv) (u, g, d))) (hS : va_S (lA s) s.heap H locs) (hl : lv_has ls 9 [(5, .int (nI i)), (0, .ref b), (1, .ref (ad 0)), (2, .ref (am 0)), (3, .ref o.1), (4, .ref o.2)])
    (kk : ∀ (n : Nat) (u : CS) (mv : MS) (g : Nat → Int64) (d : Nat → UInt64) (H : Heap) (locs : List Loc) (ls : Array Slot), Tie n (bb + 900000) u mv → va_P dd vwCl (wL cy ad o (wM cy am mv) (u, g, d)) H → va_D (lA s) (wL cy ad o (wM cy am mv) (u, g, d)) → va_S (lA s) s.heap H locs → lv_has ls 9 [(5, .int (nI i)), (0, .ref b), (1, .ref (ad 0)), (2, .ref (am 0)), (3, .ref o.1), (4, .ref o.2)] → W p l e room_1 s m #[Value.ref b] below meth c H locs (cells + 4) (slots + 24) Q (F0 m 1502 ls [])) : W p l e room_1 s m #[Value.ref b] below meth c H locs cells slots Q (F0 m 517 ls []) := by
  obtain ⟨hx, hb, hml, hown, hts, hX, hbl, hK, hSt, hE, hN⟩ := C0
  have hA : ∀ q : Nat, s.heap.size ≤ q → lA s q := fun _ h => h
  have hbA : ¬ lA s b := Nat.not_le.mpr hbl
  obtain ⟨hn, hc, hk, hok, hsI, e1, e2, hrg, hB, hsv⟩ := id hT
  refine lv_aload_n hx hb dL_law_517 rfl (lv_at hl 2 rfl) ?_
  refine lv_aload_n hx hb dL_law_518 rfl (lv_at hl 1 rfl) ?_
  refine lv_iload hx hb dL_law_519 (lv_at hl 0 rfl) ?_
  refine lv_iconst (v := nI 1) hx hb dL_law_521 (by decide) ?_
  refine wn_iadd hx hb dL_law_522 ?_
  refine wa_sld hx hb hX hbl hbA hS (i := i + 1) (by omega) (by omega) dL_law_523 ?_
  refine lv_aload_n hx hb dL_law_524 rfl (lv_at hl 1 rfl) ?_
  refine lv_iload hx hb dL_law_525 (lv_at hl 0 rfl) ?_
  refine lv_iconst (v := nI 2) hx hb dL_law_527 (by decide) ?_
  refine wn_iadd hx hb dL_law_528 ?_
  refine wa_sld hx hb hX hbl hbA hS (i := i + 2) (by omega) (by omega) dL_law_529 ?_
  refine lv_aload_n hx hb dL_law_530 rfl (lv_at hl 4 rfl) ?_
  refine wc_calli (vx_runSW (As := [.ref (ad 0), .int (xs (i + 1)), .int (xs (i + 2)), .ref o.1]) (rest := []) ⟨hx, hb, hml, hown, hts⟩ (c_L_head l hlt dd cy ad (wM cy am mv) tt N o u g d _ hrg hsI (xs (i + 1)) (xs (i + 2))) (vx_cwSW 4 hts gL_law_L_head rfl rfl rfl hd_L_head ⟨Nat.le_of_ble_eq_true rfl, Nat.le_of_ble_eq_true rfl⟩) (wrL_S hN hP hK hD hSt hE hS hA) rfl rfl hl.1 rfl (lv_room (Nat.le_of_ble_eq_true rfl)) dL_law_531 ⟨by show _ ≤ 603072; omega, by show _ ≤ 7219306; omega⟩) hD hS hA (fun r9 z9 H locs hz hP hD hS => ?_)
  obtain ⟨u9, g9, d9⟩ := z9
  obtain ⟨hz1, hz2, hz3⟩ := hz
  have hz1 : r9 = nI (lkT (inR (xs (i + 1)) (nI 0) (nI 8)) (xs (i + 2)) (lsN (nw u))) := hz1
  have hz2 : (lkT (inR (xs (i + 1)) (nI 0) (nI 8)) (xs (i + 2)) (lsN (nw u))) = 0 → frP u u9 ∧ (g9 0) = ptF (nw u) ((cn (nw u)).2.2.1 9 (xs (i + 1)).toNatClampNeg) (xs (i + 2)) := hz2
  have hz3 : (lkT (inR (xs (i + 1)) (nI 0) (nI 8)) (xs (i + 2)) (lsN (nw u))) ≠ 0 → frP u u9 := hz3
  have hP : va_P dd vwCl (wM cy am mv ++ wY cy ad o (u9, g9, d9)) H := wT_M hP
  have hD : va_D (lA s) (wM cy am mv ++ wY cy ad o (u9, g9, d9)) := wT_MD hD
  refine lv_istore (lv' := [(6, .int r9), (5, .int (nI i)), (0, .ref b), (1, .ref (ad 0)), (2, .ref (am 0)), (3, .ref o.1), (4, .ref o.2)]) hx hb dL_law_534 hl (by decide) rfl (fun ls hl => ?_)
  refine lv_aload_n hx hb dL_law_536 rfl (lv_at hl 4 rfl) ?_
  refine lv_aload_n hx hb dL_law_537 rfl (lv_at hl 2 rfl) ?_
  refine lv_iload hx hb dL_law_538 (lv_at hl 1 rfl) ?_
  refine lv_iconst (v := nI 1) hx hb dL_law_540 (by decide) ?_
  refine wn_iadd hx hb dL_law_541 ?_
  refine wa_sld hx hb hX hbl hbA hS (i := i + 1) (by omega) (by omega) dL_law_542 ?_
  refine lv_aload_n hx hb dL_law_543 rfl (lv_at hl 2 rfl) ?_
  refine lv_iload hx hb dL_law_544 (lv_at hl 1 rfl) ?_
  refine lv_iconst (v := nI 2) hx hb dL_law_546 (by decide) ?_
  refine wn_iadd hx hb dL_law_547 ?_
  refine wa_sld hx hb hX hbl hbA hS (i := i + 2) (by omega) (by omega) dL_law_548 ?_
  refine wc_calll (va_runV (As := [.int (xs (i + 1)), .int (xs (i + 2))]) (rest := []) ⟨hx, hb, hml, hown, hts⟩ (c_X3_head l dd cy am (wY cy ad o (u9, g9, d9)) mv _ (xs (i + 1)) (xs (i + 2)) (by rw [e1]; exact GM_rg hrg)) (cwV 2 hts gL_law_X3_head rfl rfl rfl hd_X3_head ⟨Nat.le_of_ble_eq_true rfl, Nat.le_of_ble_eq_true rfl⟩) (wrW_V hP hK hD (wM_0 cy am mv (wY cy ad o (u9, g9, d9))) rfl) rfl rfl hl.1 rfl (lv_room (Nat.le_of_ble_eq_true rfl)) dL_law_549 ⟨by show _ ≤ 603072; omega, by show _ ≤ 7219306; omega⟩) hD hS hA (fun r8 mv9 H locs hw hP hD hS => ?_)
  have hw : mv9.2.2.2.2.1 = nI (lkT (inR (xs (i + 1)) (nI 0) (nI 8)) (xs (i + 2)) (lsM mv)) ∧ mv9.1 = mv.1 ∧ mv9.2.1 = mv.2.1 ∧ mv9.2.2.2.1 = mv.2.2.2.1 ∧ ((lkT (inR (xs (i + 1)) (nI 0) (nI 8)) (xs (i + 2)) (lsM mv)) = 0 → r8 = ptF (mv.1 1) ((cn (mv.1 1)).2.2.1 9 (xs (i + 1)).toNatClampNeg) (xs (i + 2))) := hw
  try rw [lsM_N] at hw
  try rw [e1] at hw
  try rw [e2] at hw
  refine lv_lstore (lv' := [(7, .long r8), (6, .int r9), (5, .int (nI i)), (0, .ref b), (1, .ref (ad 0)), (2, .ref (am 0)), (3, .ref o.1), (4, .ref o.2)]) hx hb dL_law_552 hl (by decide) rfl (fun ls hl => ?_)
  refine lv_aload_n hx hb dL_law_554 rfl (lv_at hl 5 rfl) ?_
  refine vp_callSi (va_runV (As := []) (rest := []) ⟨hx, hb, hml, hown, hts⟩ (c_X3_thrown l dd cy am (wY cy ad o (u9, g9, d9)) mv9) (cwV 0 hts gL_law_X3_thrown rfl rfl rfl hd_X3_thrown ⟨Nat.le_of_ble_eq_true rfl, Nat.le_of_ble_eq_true rfl⟩) (rdW_V hP hK (wM_0 cy am mv9 (wY cy ad o (u9, g9, d9))) rfl) rfl rfl hl.1 rfl (lv_room (Nat.le_of_ble_eq_true rfl)) dL_law_555 ⟨by show _ ≤ 603072; omega, by show _ ≤ 7219306; omega⟩).run (fun r7 hr7 => ?_)
  have hq7 : r7 = r9 := by rw [hr7, hz1]; exact hw.1
  refine lv_iload hx hb dL_law_558 (lv_at hl 1 rfl) ?_
  refine lv_icmp_eq (tgt := 565) hx hb dL_law_560 (by decide) (fun _ => ?_) (fun c1 => (by first | exact absurd hq7 c1 | exact absurd c1 hq7))
  refine lv_iload hx hb dL_law_565 (lv_at hl 1 rfl) ?_
  refine lv_if_ne (tgt := 581) hx hb dL_law_567 (by decide) (fun cK => ?_) (fun cK => ?_)
  · have h0 : ¬ (lkT (inR (xs (i + 1)) (nI 0) (nI 8)) (xs (i + 2)) (lsN (nw u))) = 0 := fun q => cK (by rw [hz1, q]; rfl)
    refine lv_goto (tgt := 1502) hx hb dL_law_581 (by decide) ?_
    refine W.widen (k := cells + 4) (n := slots + 24) (by omega) (by omega) ?_
    exact kk n u9 mv9 g9 d9 H locs ls (tie_mono (tie_fr hT (hz3 h0) hw.2.1 hw.2.2.1 hw.2.2.2.1) (by omega)) (wT_L hP) (wT_LD hD) hS (lv_sub hl [2, 3, 4, 5, 6, 7] rfl)
  · have h0 : (lkT (inR (xs (i + 1)) (nI 0) (nI 8)) (xs (i + 2)) (lsN (nw u))) = 0 := nI_z (lkT_le _ _ _) (by rw [← hz1]; exact cK)
    obtain ⟨k1, k2⟩ := hz2 h0
    have hv9 : g9 0 = r8 := by rw [k2]; exact (hw.2.2.2.2 h0).symm
    refine lv_aload_n hx hb dL_law_570 rfl (lv_at hl 6 rfl) ?_
    refine lv_iconst (v := nI 0) hx hb dL_law_571 (by decide) ?_
    refine wa_lald hx hb hK hP (wY_69 cy ad am o mv9 u9 g9 d9) (t0 := 1) rfl (i := 0) (by decide) (by decide) dL_law_572 ?_
    refine lv_lload hx hb dL_law_573 (lv_at hl 0 rfl) ?_
    refine wl_eq (tgt := 581) hx hb dL_law_575 dL_law_576 (by decide) (fun _ => ?_) (fun c2 => (by first | exact absurd hv9 c2 | exact absurd c2 hv9))
    refine lv_goto (tgt := 1502) hx hb dL_law_581 (by decide) ?_
    refine W.widen (k := cells + 4) (n := slots + 24) (by omega) (by omega) ?_
    exact kk n u9 mv9 g9 d9 H locs ls (tie_mono (tie_fr hT k1 hw.2.1 hw.2.2.1 hw.2.2.2.1) (by omega)) (wT_L hP) (wT_LD hD) hS (lv_sub hl [2, 3, 4, 5, 6, 7] rfl)
set_option maxHeartbeats 4000000 in
set_option maxRecDepth 100000 in
/-- the law: flow -/
theorem lc_flow {p : Program} {l : Launch} {e : Env} {s : State} {m : MethodId} {below : List Frame} {meth : Method} {c : Code} {Q : State → Prop} {dd : va_G} {cy : Nat → ClassId} {ad am : Nat → Nat} {tt : Nat × Nat} {N : Nat → Nat} {o : Nat × Nat} {b L : Nat} {xs : Nat → Int32} (hlt : l.stackTraces = false) (C0 : lcx p s m c dd cy tt N b L xs) {i n bb cells slots : Nat} {u : CS} {mv : MS} {g : Nat → Int64} {d : Nat → UInt64} {H : Heap} {locs : List Loc} {ls : Array Slot} (hi : i + 4 ≤ L) (hL : L ≤ 2048) (hT : Tie n bb u mv) (hb0 : 1000 ≤ bb) (hb1 : bb + 900000 ≤ 2 ^ 40) (hce0 : cells + 4 ≤ 603072) (hsl0 : slots + 24 ≤ 7219306) (hP : va_P dd vwCl (wL cy ad o (wM cy am mv) (u, g, d)) H) (hD : va_D (lA s) (wL cy ad o (wM cy am mv) (u, g, d))) (hS : va_S (lA s) s.heap H locs) (hl : lv_has ls 9 [(5, .int (nI i)), (0, .ref b), (1, .ref (ad 0)), (2, .ref (am 0)), (3, .ref o.1), (4, .ref o.2)])
    (kk : ∀ (n : Nat) (u : CS) (mv : MS) (g : Nat → Int64) (d : Nat → UInt64) (H : Heap) (locs : List Loc) (ls : Array Slot), Tie n (bb + 900000) u mv → va_P dd vwCl (wL cy ad o (wM cy am mv) (u, g, d)) H → va_D (lA s) (wL cy ad o (wM cy am mv) (u, g, d)) → va_S (lA s) s.heap H locs → lv_has ls 9 [(5, .int (nI i)), (0, .ref b), (1, .ref (ad 0)), (2, .ref (am 0)), (3, .ref o.1), (4, .ref o.2)] → W p l e room_1 s m #[Value.ref b] below meth c H locs (cells + 4) (slots + 24) Q (F0 m 1502 ls [])) : W p l e room_1 s m #[Value.ref b] below meth c H locs cells slots Q (F0 m 584 ls []) := by
  obtain ⟨hx, hb, hml, hown, hts, hX, hbl, hK, hSt, hE, hN⟩ := C0
  have hA : ∀ q : Nat, s.heap.size ≤ q → lA s q := fun _ h => h
  have hbA : ¬ lA s b := Nat.not_le.mpr hbl
  obtain ⟨hn, hc, hk, hok, hsI, e1, e2, hrg, hB, hsv⟩ := id hT
  refine lv_aload_n hx hb dL_law_584 rfl (lv_at hl 2 rfl) ?_
  refine lv_aload_n hx hb dL_law_585 rfl (lv_at hl 1 rfl) ?_
  refine lv_iload hx hb dL_law_586 (lv_at hl 0 rfl) ?_
  refine lv_iconst (v := nI 1) hx hb dL_law_588 (by decide) ?_
  refine wn_iadd hx hb dL_law_589 ?_
  refine wa_sld hx hb hX hbl hbA hS (i := i + 1) (by omega) (by omega) dL_law_590 ?_
  refine lv_aload_n hx hb dL_law_591 rfl (lv_at hl 1 rfl) ?_
  refine lv_iload hx hb dL_law_592 (lv_at hl 0 rfl) ?_
  refine lv_iconst (v := nI 2) hx hb dL_law_594 (by decide) ?_
  refine wn_iadd hx hb dL_law_595 ?_
  refine wa_sld hx hb hX hbl hbA hS (i := i + 2) (by omega) (by omega) dL_law_596 ?_
  refine lv_aload_n hx hb dL_law_597 rfl (lv_at hl 4 rfl) ?_
  refine wc_calli (vx_runSW (As := [.ref (ad 0), .int (xs (i + 1)), .int (xs (i + 2)), .ref o.1]) (rest := []) ⟨hx, hb, hml, hown, hts⟩ (c_L_flow l hlt dd cy ad (wM cy am mv) tt N o u g d _ hrg hsI (xs (i + 1)) (xs (i + 2))) (vx_cwSW 4 hts gL_law_L_flow rfl rfl rfl hd_L_flow ⟨Nat.le_of_ble_eq_true rfl, Nat.le_of_ble_eq_true rfl⟩) (wrL_S hN hP hK hD hSt hE hS hA) rfl rfl hl.1 rfl (lv_room (Nat.le_of_ble_eq_true rfl)) dL_law_598 ⟨by show _ ≤ 603072; omega, by show _ ≤ 7219306; omega⟩) hD hS hA (fun r9 z9 H locs hz hP hD hS => ?_)
  obtain ⟨u9, g9, d9⟩ := z9
  obtain ⟨hz1, hz2, hz3⟩ := hz
  have hz1 : r9 = nI (lkT (inR (xs (i + 1)) (nI 0) (nI 23)) (xs (i + 2)) (lsN (nw u))) := hz1
  have hz2 : (lkT (inR (xs (i + 1)) (nI 0) (nI 23)) (xs (i + 2)) (lsN (nw u))) = 0 → frP u u9 ∧ (g9 0) = ptF (nw u) (flM (cn (nw u)) (xs (i + 1)).toNatClampNeg) (xs (i + 2)) := hz2
  have hz3 : (lkT (inR (xs (i + 1)) (nI 0) (nI 23)) (xs (i + 2)) (lsN (nw u))) ≠ 0 → frP u u9 := hz3
  have hP : va_P dd vwCl (wM cy am mv ++ wY cy ad o (u9, g9, d9)) H := wT_M hP
  have hD : va_D (lA s) (wM cy am mv ++ wY cy ad o (u9, g9, d9)) := wT_MD hD
  refine lv_istore (lv' := [(6, .int r9), (5, .int (nI i)), (0, .ref b), (1, .ref (ad 0)), (2, .ref (am 0)), (3, .ref o.1), (4, .ref o.2)]) hx hb dL_law_601 hl (by decide) rfl (fun ls hl => ?_)
  refine lv_aload_n hx hb dL_law_603 rfl (lv_at hl 4 rfl) ?_
  refine lv_aload_n hx hb dL_law_604 rfl (lv_at hl 2 rfl) ?_
  refine lv_iload hx hb dL_law_605 (lv_at hl 1 rfl) ?_
  refine lv_iconst (v := nI 1) hx hb dL_law_607 (by decide) ?_
  refine wn_iadd hx hb dL_law_608 ?_
  refine wa_sld hx hb hX hbl hbA hS (i := i + 1) (by omega) (by omega) dL_law_609 ?_
  refine lv_aload_n hx hb dL_law_610 rfl (lv_at hl 2 rfl) ?_
  refine lv_iload hx hb dL_law_611 (lv_at hl 1 rfl) ?_
  refine lv_iconst (v := nI 2) hx hb dL_law_613 (by decide) ?_
  refine wn_iadd hx hb dL_law_614 ?_
  refine wa_sld hx hb hX hbl hbA hS (i := i + 2) (by omega) (by omega) dL_law_615 ?_
  refine wc_calll (va_runV (As := [.int (xs (i + 1)), .int (xs (i + 2))]) (rest := []) ⟨hx, hb, hml, hown, hts⟩ (c_X3_flow l dd cy am (wY cy ad o (u9, g9, d9)) mv _ (xs (i + 1)) (xs (i + 2)) (by rw [e1]; exact GM_rg hrg)) (cwV 2 hts gL_law_X3_flow rfl rfl rfl hd_X3_flow ⟨Nat.le_of_ble_eq_true rfl, Nat.le_of_ble_eq_true rfl⟩) (wrW_V hP hK hD (wM_0 cy am mv (wY cy ad o (u9, g9, d9))) rfl) rfl rfl hl.1 rfl (lv_room (Nat.le_of_ble_eq_true rfl)) dL_law_616 ⟨by show _ ≤ 603072; omega, by show _ ≤ 7219306; omega⟩) hD hS hA (fun r8 mv9 H locs hw hP hD hS => ?_)
  have hw : mv9.2.2.2.2.1 = nI (lkT (inR (xs (i + 1)) (nI 0) (nI 23)) (xs (i + 2)) (lsM mv)) ∧ mv9.1 = mv.1 ∧ mv9.2.1 = mv.2.1 ∧ mv9.2.2.2.1 = mv.2.2.2.1 ∧ ((lkT (inR (xs (i + 1)) (nI 0) (nI 23)) (xs (i + 2)) (lsM mv)) = 0 → r8 = ptF (mv.1 1) (flM (cn (mv.1 1)) (xs (i + 1)).toNatClampNeg) (xs (i + 2))) := hw
  try rw [lsM_N] at hw
  try rw [e1] at hw
  try rw [e2] at hw
  refine lv_lstore (lv' := [(7, .long r8), (6, .int r9), (5, .int (nI i)), (0, .ref b), (1, .ref (ad 0)), (2, .ref (am 0)), (3, .ref o.1), (4, .ref o.2)]) hx hb dL_law_619 hl (by decide) rfl (fun ls hl => ?_)
  refine lv_aload_n hx hb dL_law_621 rfl (lv_at hl 5 rfl) ?_
  refine vp_callSi (va_runV (As := []) (rest := []) ⟨hx, hb, hml, hown, hts⟩ (c_X3_thrown l dd cy am (wY cy ad o (u9, g9, d9)) mv9) (cwV 0 hts gL_law_X3_thrown rfl rfl rfl hd_X3_thrown ⟨Nat.le_of_ble_eq_true rfl, Nat.le_of_ble_eq_true rfl⟩) (rdW_V hP hK (wM_0 cy am mv9 (wY cy ad o (u9, g9, d9))) rfl) rfl rfl hl.1 rfl (lv_room (Nat.le_of_ble_eq_true rfl)) dL_law_622 ⟨by show _ ≤ 603072; omega, by show _ ≤ 7219306; omega⟩).run (fun r7 hr7 => ?_)
  have hq7 : r7 = r9 := by rw [hr7, hz1]; exact hw.1
  refine lv_iload hx hb dL_law_625 (lv_at hl 1 rfl) ?_
  refine lv_icmp_eq (tgt := 632) hx hb dL_law_627 (by decide) (fun _ => ?_) (fun c1 => (by first | exact absurd hq7 c1 | exact absurd c1 hq7))
  refine lv_iload hx hb dL_law_632 (lv_at hl 1 rfl) ?_
  refine lv_if_ne (tgt := 648) hx hb dL_law_634 (by decide) (fun cK => ?_) (fun cK => ?_)
  · have h0 : ¬ (lkT (inR (xs (i + 1)) (nI 0) (nI 23)) (xs (i + 2)) (lsN (nw u))) = 0 := fun q => cK (by rw [hz1, q]; rfl)
    refine lv_goto (tgt := 1502) hx hb dL_law_648 (by decide) ?_
    refine W.widen (k := cells + 4) (n := slots + 24) (by omega) (by omega) ?_
    exact kk n u9 mv9 g9 d9 H locs ls (tie_mono (tie_fr hT (hz3 h0) hw.2.1 hw.2.2.1 hw.2.2.2.1) (by omega)) (wT_L hP) (wT_LD hD) hS (lv_sub hl [2, 3, 4, 5, 6, 7] rfl)
  · have h0 : (lkT (inR (xs (i + 1)) (nI 0) (nI 23)) (xs (i + 2)) (lsN (nw u))) = 0 := nI_z (lkT_le _ _ _) (by rw [← hz1]; exact cK)
    obtain ⟨k1, k2⟩ := hz2 h0
    have hv9 : g9 0 = r8 := by rw [k2]; exact (hw.2.2.2.2 h0).symm
    refine lv_aload_n hx hb dL_law_637 rfl (lv_at hl 6 rfl) ?_
    refine lv_iconst (v := nI 0) hx hb dL_law_638 (by decide) ?_
    refine wa_lald hx hb hK hP (wY_69 cy ad am o mv9 u9 g9 d9) (t0 := 1) rfl (i := 0) (by decide) (by decide) dL_law_639 ?_
    refine lv_lload hx hb dL_law_640 (lv_at hl 0 rfl) ?_
    refine wl_eq (tgt := 648) hx hb dL_law_642 dL_law_643 (by decide) (fun _ => ?_) (fun c2 => (by first | exact absurd hv9 c2 | exact absurd c2 hv9))
    refine lv_goto (tgt := 1502) hx hb dL_law_648 (by decide) ?_
    refine W.widen (k := cells + 4) (n := slots + 24) (by omega) (by omega) ?_
    exact kk n u9 mv9 g9 d9 H locs ls (tie_mono (tie_fr hT k1 hw.2.1 hw.2.2.1 hw.2.2.2.1) (by omega)) (wT_L hP) (wT_LD hD) hS (lv_sub hl [2, 3, 4, 5, 6, 7] rfl)
set_option maxHeartbeats 4000000 in
set_option maxRecDepth 100000 in
/-- the law: inflow -/
theorem lc_inflow {p : Program} {l : Launch} {e : Env} {s : State} {m : MethodId} {below : List Frame} {meth : Method} {c : Code} {Q : State → Prop} {dd : va_G} {cy : Nat → ClassId} {ad am : Nat → Nat} {tt : Nat × Nat} {N : Nat → Nat} {o : Nat × Nat} {b L : Nat} {xs : Nat → Int32} (hlt : l.stackTraces = false) (C0 : lcx p s m c dd cy tt N b L xs) {i n bb cells slots : Nat} {u : CS} {mv : MS} {g : Nat → Int64} {d : Nat → UInt64} {H : Heap} {locs : List Loc} {ls : Array Slot} (hi : i + 4 ≤ L) (hL : L ≤ 2048) (hT : Tie n bb u mv) (hb0 : 1000 ≤ bb) (hb1 : bb + 900000 ≤ 2 ^ 40) (hce0 : cells + 4 ≤ 603072) (hsl0 : slots + 24 ≤ 7219306) (hP : va_P dd vwCl (wL cy ad o (wM cy am mv) (u, g, d)) H) (hD : va_D (lA s) (wL cy ad o (wM cy am mv) (u, g, d))) (hS : va_S (lA s) s.heap H locs) (hl : lv_has ls 9 [(5, .int (nI i)), (0, .ref b), (1, .ref (ad 0)), (2, .ref (am 0)), (3, .ref o.1), (4, .ref o.2)])
    (kk : ∀ (n : Nat) (u : CS) (mv : MS) (g : Nat → Int64) (d : Nat → UInt64) (H : Heap) (locs : List Loc) (ls : Array Slot), Tie n (bb + 900000) u mv → va_P dd vwCl (wL cy ad o (wM cy am mv) (u, g, d)) H → va_D (lA s) (wL cy ad o (wM cy am mv) (u, g, d)) → va_S (lA s) s.heap H locs → lv_has ls 9 [(5, .int (nI i)), (0, .ref b), (1, .ref (ad 0)), (2, .ref (am 0)), (3, .ref o.1), (4, .ref o.2)] → W p l e room_1 s m #[Value.ref b] below meth c H locs (cells + 4) (slots + 24) Q (F0 m 1502 ls [])) : W p l e room_1 s m #[Value.ref b] below meth c H locs cells slots Q (F0 m 651 ls []) := by
  obtain ⟨hx, hb, hml, hown, hts, hX, hbl, hK, hSt, hE, hN⟩ := C0
  have hA : ∀ q : Nat, s.heap.size ≤ q → lA s q := fun _ h => h
  have hbA : ¬ lA s b := Nat.not_le.mpr hbl
  obtain ⟨hn, hc, hk, hok, hsI, e1, e2, hrg, hB, hsv⟩ := id hT
  refine lv_aload_n hx hb dL_law_651 rfl (lv_at hl 2 rfl) ?_
  refine lv_aload_n hx hb dL_law_652 rfl (lv_at hl 1 rfl) ?_
  refine lv_iload hx hb dL_law_653 (lv_at hl 0 rfl) ?_
  refine lv_iconst (v := nI 1) hx hb dL_law_655 (by decide) ?_
  refine wn_iadd hx hb dL_law_656 ?_
  refine wa_sld hx hb hX hbl hbA hS (i := i + 1) (by omega) (by omega) dL_law_657 ?_
  refine lv_aload_n hx hb dL_law_658 rfl (lv_at hl 1 rfl) ?_
  refine lv_iload hx hb dL_law_659 (lv_at hl 0 rfl) ?_
  refine lv_iconst (v := nI 2) hx hb dL_law_661 (by decide) ?_
  refine wn_iadd hx hb dL_law_662 ?_
  refine wa_sld hx hb hX hbl hbA hS (i := i + 2) (by omega) (by omega) dL_law_663 ?_
  refine lv_aload_n hx hb dL_law_664 rfl (lv_at hl 4 rfl) ?_
  refine wc_calli (vx_runSW (As := [.ref (ad 0), .int (xs (i + 1)), .int (xs (i + 2)), .ref o.1]) (rest := []) ⟨hx, hb, hml, hown, hts⟩ (c_L_inflow l hlt dd cy ad (wM cy am mv) tt N o u g d _ hrg hsI (xs (i + 1)) (xs (i + 2))) (vx_cwSW 4 hts gL_law_L_inflow rfl rfl rfl hd_L_inflow ⟨Nat.le_of_ble_eq_true rfl, Nat.le_of_ble_eq_true rfl⟩) (wrL_S hN hP hK hD hSt hE hS hA) rfl rfl hl.1 rfl (lv_room (Nat.le_of_ble_eq_true rfl)) dL_law_665 ⟨by show _ ≤ 603072; omega, by show _ ≤ 7219306; omega⟩) hD hS hA (fun r9 z9 H locs hz hP hD hS => ?_)
  obtain ⟨u9, g9, d9⟩ := z9
  obtain ⟨hz1, hz2, hz3⟩ := hz
  have hz1 : r9 = nI (lkT (inR (xs (i + 1)) (nI 0) (nI 3)) (xs (i + 2)) (lsN (nw u))) := hz1
  have hz2 : (lkT (inR (xs (i + 1)) (nI 0) (nI 3)) (xs (i + 2)) (lsN (nw u))) = 0 → frP u u9 ∧ (g9 0) = ptF (nw u) (ifM (cn (nw u)) (xs (i + 1)).toNatClampNeg) (xs (i + 2)) := hz2
  have hz3 : (lkT (inR (xs (i + 1)) (nI 0) (nI 3)) (xs (i + 2)) (lsN (nw u))) ≠ 0 → frP u u9 := hz3
  have hP : va_P dd vwCl (wM cy am mv ++ wY cy ad o (u9, g9, d9)) H := wT_M hP
  have hD : va_D (lA s) (wM cy am mv ++ wY cy ad o (u9, g9, d9)) := wT_MD hD
  refine lv_istore (lv' := [(6, .int r9), (5, .int (nI i)), (0, .ref b), (1, .ref (ad 0)), (2, .ref (am 0)), (3, .ref o.1), (4, .ref o.2)]) hx hb dL_law_668 hl (by decide) rfl (fun ls hl => ?_)
  refine lv_aload_n hx hb dL_law_670 rfl (lv_at hl 4 rfl) ?_
  refine lv_aload_n hx hb dL_law_671 rfl (lv_at hl 2 rfl) ?_
  refine lv_iload hx hb dL_law_672 (lv_at hl 1 rfl) ?_
  refine lv_iconst (v := nI 1) hx hb dL_law_674 (by decide) ?_
  refine wn_iadd hx hb dL_law_675 ?_
  refine wa_sld hx hb hX hbl hbA hS (i := i + 1) (by omega) (by omega) dL_law_676 ?_
  refine lv_aload_n hx hb dL_law_677 rfl (lv_at hl 2 rfl) ?_
  refine lv_iload hx hb dL_law_678 (lv_at hl 1 rfl) ?_
  refine lv_iconst (v := nI 2) hx hb dL_law_680 (by decide) ?_
  refine wn_iadd hx hb dL_law_681 ?_
  refine wa_sld hx hb hX hbl hbA hS (i := i + 2) (by omega) (by omega) dL_law_682 ?_
  refine wc_calll (va_runV (As := [.int (xs (i + 1)), .int (xs (i + 2))]) (rest := []) ⟨hx, hb, hml, hown, hts⟩ (c_X3_inflow l dd cy am (wY cy ad o (u9, g9, d9)) mv _ (xs (i + 1)) (xs (i + 2)) (by rw [e1]; exact GM_rg hrg)) (cwV 2 hts gL_law_X3_inflow rfl rfl rfl hd_X3_inflow ⟨Nat.le_of_ble_eq_true rfl, Nat.le_of_ble_eq_true rfl⟩) (wrW_V hP hK hD (wM_0 cy am mv (wY cy ad o (u9, g9, d9))) rfl) rfl rfl hl.1 rfl (lv_room (Nat.le_of_ble_eq_true rfl)) dL_law_683 ⟨by show _ ≤ 603072; omega, by show _ ≤ 7219306; omega⟩) hD hS hA (fun r8 mv9 H locs hw hP hD hS => ?_)
  have hw : mv9.2.2.2.2.1 = nI (lkT (inR (xs (i + 1)) (nI 0) (nI 3)) (xs (i + 2)) (lsM mv)) ∧ mv9.1 = mv.1 ∧ mv9.2.1 = mv.2.1 ∧ mv9.2.2.2.1 = mv.2.2.2.1 ∧ ((lkT (inR (xs (i + 1)) (nI 0) (nI 3)) (xs (i + 2)) (lsM mv)) = 0 → r8 = ptF (mv.1 1) (ifM (cn (mv.1 1)) (xs (i + 1)).toNatClampNeg) (xs (i + 2))) := hw
  try rw [lsM_N] at hw
  try rw [e1] at hw
  try rw [e2] at hw
  refine lv_lstore (lv' := [(7, .long r8), (6, .int r9), (5, .int (nI i)), (0, .ref b), (1, .ref (ad 0)), (2, .ref (am 0)), (3, .ref o.1), (4, .ref o.2)]) hx hb dL_law_686 hl (by decide) rfl (fun ls hl => ?_)
  refine lv_aload_n hx hb dL_law_688 rfl (lv_at hl 5 rfl) ?_
  refine vp_callSi (va_runV (As := []) (rest := []) ⟨hx, hb, hml, hown, hts⟩ (c_X3_thrown l dd cy am (wY cy ad o (u9, g9, d9)) mv9) (cwV 0 hts gL_law_X3_thrown rfl rfl rfl hd_X3_thrown ⟨Nat.le_of_ble_eq_true rfl, Nat.le_of_ble_eq_true rfl⟩) (rdW_V hP hK (wM_0 cy am mv9 (wY cy ad o (u9, g9, d9))) rfl) rfl rfl hl.1 rfl (lv_room (Nat.le_of_ble_eq_true rfl)) dL_law_689 ⟨by show _ ≤ 603072; omega, by show _ ≤ 7219306; omega⟩).run (fun r7 hr7 => ?_)
  have hq7 : r7 = r9 := by rw [hr7, hz1]; exact hw.1
  refine lv_iload hx hb dL_law_692 (lv_at hl 1 rfl) ?_
  refine lv_icmp_eq (tgt := 699) hx hb dL_law_694 (by decide) (fun _ => ?_) (fun c1 => (by first | exact absurd hq7 c1 | exact absurd c1 hq7))
  refine lv_iload hx hb dL_law_699 (lv_at hl 1 rfl) ?_
  refine lv_if_ne (tgt := 715) hx hb dL_law_701 (by decide) (fun cK => ?_) (fun cK => ?_)
  · have h0 : ¬ (lkT (inR (xs (i + 1)) (nI 0) (nI 3)) (xs (i + 2)) (lsN (nw u))) = 0 := fun q => cK (by rw [hz1, q]; rfl)
    refine lv_goto (tgt := 1502) hx hb dL_law_715 (by decide) ?_
    refine W.widen (k := cells + 4) (n := slots + 24) (by omega) (by omega) ?_
    exact kk n u9 mv9 g9 d9 H locs ls (tie_mono (tie_fr hT (hz3 h0) hw.2.1 hw.2.2.1 hw.2.2.2.1) (by omega)) (wT_L hP) (wT_LD hD) hS (lv_sub hl [2, 3, 4, 5, 6, 7] rfl)
  · have h0 : (lkT (inR (xs (i + 1)) (nI 0) (nI 3)) (xs (i + 2)) (lsN (nw u))) = 0 := nI_z (lkT_le _ _ _) (by rw [← hz1]; exact cK)
    obtain ⟨k1, k2⟩ := hz2 h0
    have hv9 : g9 0 = r8 := by rw [k2]; exact (hw.2.2.2.2 h0).symm
    refine lv_aload_n hx hb dL_law_704 rfl (lv_at hl 6 rfl) ?_
    refine lv_iconst (v := nI 0) hx hb dL_law_705 (by decide) ?_
    refine wa_lald hx hb hK hP (wY_69 cy ad am o mv9 u9 g9 d9) (t0 := 1) rfl (i := 0) (by decide) (by decide) dL_law_706 ?_
    refine lv_lload hx hb dL_law_707 (lv_at hl 0 rfl) ?_
    refine wl_eq (tgt := 715) hx hb dL_law_709 dL_law_710 (by decide) (fun _ => ?_) (fun c2 => (by first | exact absurd hv9 c2 | exact absurd c2 hv9))
    refine lv_goto (tgt := 1502) hx hb dL_law_715 (by decide) ?_
    refine W.widen (k := cells + 4) (n := slots + 24) (by omega) (by omega) ?_
    exact kk n u9 mv9 g9 d9 H locs ls (tie_mono (tie_fr hT k1 hw.2.1 hw.2.2.1 hw.2.2.2.1) (by omega)) (wT_L hP) (wT_LD hD) hS (lv_sub hl [2, 3, 4, 5, 6, 7] rfl)
set_option maxHeartbeats 4000000 in
set_option maxRecDepth 100000 in
/-- the law: influence -/
theorem lc_influence {p : Program} {l : Launch} {e : Env} {s : State} {m : MethodId} {below : List Frame} {meth : Method} {c : Code} {Q : State → Prop} {dd : va_G} {cy : Nat → ClassId} {ad am : Nat → Nat} {tt : Nat × Nat} {N : Nat → Nat} {o : Nat × Nat} {b L : Nat} {xs : Nat → Int32} (hlt : l.stackTraces = false) (C0 : lcx p s m c dd cy tt N b L xs) {i n bb cells slots : Nat} {u : CS} {mv : MS} {g : Nat → Int64} {d : Nat → UInt64} {H : Heap} {locs : List Loc} {ls : Array Slot} (hi : i + 4 ≤ L) (hL : L ≤ 2048) (hT : Tie n bb u mv) (hb0 : 1000 ≤ bb) (hb1 : bb + 900000 ≤ 2 ^ 40) (hce0 : cells + 4 ≤ 603072) (hsl0 : slots + 24 ≤ 7219306) (hP : va_P dd vwCl (wL cy ad o (wM cy am mv) (u, g, d)) H) (hD : va_D (lA s) (wL cy ad o (wM cy am mv) (u, g, d))) (hS : va_S (lA s) s.heap H locs) (hl : lv_has ls 9 [(5, .int (nI i)), (0, .ref b), (1, .ref (ad 0)), (2, .ref (am 0)), (3, .ref o.1), (4, .ref o.2)])
    (kk : ∀ (n : Nat) (u : CS) (mv : MS) (g : Nat → Int64) (d : Nat → UInt64) (H : Heap) (locs : List Loc) (ls : Array Slot), Tie n (bb + 900000) u mv → va_P dd vwCl (wL cy ad o (wM cy am mv) (u, g, d)) H → va_D (lA s) (wL cy ad o (wM cy am mv) (u, g, d)) → va_S (lA s) s.heap H locs → lv_has ls 9 [(5, .int (nI i)), (0, .ref b), (1, .ref (ad 0)), (2, .ref (am 0)), (3, .ref o.1), (4, .ref o.2)] → W p l e room_1 s m #[Value.ref b] below meth c H locs (cells + 4) (slots + 24) Q (F0 m 1502 ls [])) : W p l e room_1 s m #[Value.ref b] below meth c H locs cells slots Q (F0 m 718 ls []) := by
  obtain ⟨hx, hb, hml, hown, hts, hX, hbl, hK, hSt, hE, hN⟩ := C0
  have hA : ∀ q : Nat, s.heap.size ≤ q → lA s q := fun _ h => h
  have hbA : ¬ lA s b := Nat.not_le.mpr hbl
  obtain ⟨hn, hc, hk, hok, hsI, e1, e2, hrg, hB, hsv⟩ := id hT
  refine lv_aload_n hx hb dL_law_718 rfl (lv_at hl 2 rfl) ?_
  refine lv_aload_n hx hb dL_law_719 rfl (lv_at hl 1 rfl) ?_
  refine lv_iload hx hb dL_law_720 (lv_at hl 0 rfl) ?_
  refine lv_iconst (v := nI 1) hx hb dL_law_722 (by decide) ?_
  refine wn_iadd hx hb dL_law_723 ?_
  refine wa_sld hx hb hX hbl hbA hS (i := i + 1) (by omega) (by omega) dL_law_724 ?_
  refine lv_aload_n hx hb dL_law_725 rfl (lv_at hl 1 rfl) ?_
  refine lv_iload hx hb dL_law_726 (lv_at hl 0 rfl) ?_
  refine lv_iconst (v := nI 2) hx hb dL_law_728 (by decide) ?_
  refine wn_iadd hx hb dL_law_729 ?_
  refine wa_sld hx hb hX hbl hbA hS (i := i + 2) (by omega) (by omega) dL_law_730 ?_
  refine lv_aload_n hx hb dL_law_731 rfl (lv_at hl 1 rfl) ?_
  refine lv_iload hx hb dL_law_732 (lv_at hl 0 rfl) ?_
  refine lv_iconst (v := nI 3) hx hb dL_law_734 (by decide) ?_
  refine wn_iadd hx hb dL_law_735 ?_
  refine wa_sld hx hb hX hbl hbA hS (i := i + 3) (by omega) (by omega) dL_law_736 ?_
  refine lv_aload_n hx hb dL_law_737 rfl (lv_at hl 4 rfl) ?_
  refine wc_calli (vx_runSW (As := [.ref (ad 0), .int (xs (i + 1)), .int (xs (i + 2)), .int (xs (i + 3)), .ref o.1]) (rest := []) ⟨hx, hb, hml, hown, hts⟩ (c_L_influence l hlt dd cy ad (wM cy am mv) tt N o u g d _ hrg hsI (xs (i + 1)) (xs (i + 2)) (xs (i + 3))) (vx_cwSW 5 hts gL_law_L_influence rfl rfl rfl hd_L_influence ⟨Nat.le_of_ble_eq_true rfl, Nat.le_of_ble_eq_true rfl⟩) (wrL_S hN hP hK hD hSt hE hS hA) rfl rfl hl.1 rfl (lv_room (Nat.le_of_ble_eq_true rfl)) dL_law_738 ⟨by show _ ≤ 603072; omega, by show _ ≤ 7219306; omega⟩) hD hS hA (fun r9 z9 H locs hz hP hD hS => ?_)
  obtain ⟨u9, g9, d9⟩ := z9
  obtain ⟨hz1, hz2, hz3⟩ := hz
  have hz1 : r9 = nI (lkT (inR (xs (i + 1)) (nI 0) (nI 8) && inR (xs (i + 2)) (nI 0) (nI 8)) (xs (i + 3)) (lsN (nw u))) := hz1
  have hz2 : (lkT (inR (xs (i + 1)) (nI 0) (nI 8) && inR (xs (i + 2)) (nI 0) (nI 8)) (xs (i + 3)) (lsN (nw u))) = 0 → frP u u9 ∧ (g9 0) = ptF (nw u) ((cn (nw u)).2.2.1 8 (9 * (xs (i + 1)).toNatClampNeg + (xs (i + 2)).toNatClampNeg)) (xs (i + 3)) := hz2
  have hz3 : (lkT (inR (xs (i + 1)) (nI 0) (nI 8) && inR (xs (i + 2)) (nI 0) (nI 8)) (xs (i + 3)) (lsN (nw u))) ≠ 0 → frP u u9 := hz3
  have hP : va_P dd vwCl (wM cy am mv ++ wY cy ad o (u9, g9, d9)) H := wT_M hP
  have hD : va_D (lA s) (wM cy am mv ++ wY cy ad o (u9, g9, d9)) := wT_MD hD
  refine lv_istore (lv' := [(6, .int r9), (5, .int (nI i)), (0, .ref b), (1, .ref (ad 0)), (2, .ref (am 0)), (3, .ref o.1), (4, .ref o.2)]) hx hb dL_law_741 hl (by decide) rfl (fun ls hl => ?_)
  refine lv_aload_n hx hb dL_law_743 rfl (lv_at hl 4 rfl) ?_
  refine lv_aload_n hx hb dL_law_744 rfl (lv_at hl 2 rfl) ?_
  refine lv_iload hx hb dL_law_745 (lv_at hl 1 rfl) ?_
  refine lv_iconst (v := nI 1) hx hb dL_law_747 (by decide) ?_
  refine wn_iadd hx hb dL_law_748 ?_
  refine wa_sld hx hb hX hbl hbA hS (i := i + 1) (by omega) (by omega) dL_law_749 ?_
  refine lv_aload_n hx hb dL_law_750 rfl (lv_at hl 2 rfl) ?_
  refine lv_iload hx hb dL_law_751 (lv_at hl 1 rfl) ?_
  refine lv_iconst (v := nI 2) hx hb dL_law_753 (by decide) ?_
  refine wn_iadd hx hb dL_law_754 ?_
  refine wa_sld hx hb hX hbl hbA hS (i := i + 2) (by omega) (by omega) dL_law_755 ?_
  refine lv_aload_n hx hb dL_law_756 rfl (lv_at hl 2 rfl) ?_
  refine lv_iload hx hb dL_law_757 (lv_at hl 1 rfl) ?_
  refine lv_iconst (v := nI 3) hx hb dL_law_759 (by decide) ?_
  refine wn_iadd hx hb dL_law_760 ?_
  refine wa_sld hx hb hX hbl hbA hS (i := i + 3) (by omega) (by omega) dL_law_761 ?_
  refine wc_calll (va_runV (As := [.int (xs (i + 1)), .int (xs (i + 2)), .int (xs (i + 3))]) (rest := []) ⟨hx, hb, hml, hown, hts⟩ (c_X3_influence l dd cy am (wY cy ad o (u9, g9, d9)) mv _ (xs (i + 1)) (xs (i + 2)) (xs (i + 3)) (by rw [e1]; exact GM_rg hrg)) (cwV 3 hts gL_law_X3_influence rfl rfl rfl hd_X3_influence ⟨Nat.le_of_ble_eq_true rfl, Nat.le_of_ble_eq_true rfl⟩) (wrW_V hP hK hD (wM_0 cy am mv (wY cy ad o (u9, g9, d9))) rfl) rfl rfl hl.1 rfl (lv_room (Nat.le_of_ble_eq_true rfl)) dL_law_762 ⟨by show _ ≤ 603072; omega, by show _ ≤ 7219306; omega⟩) hD hS hA (fun r8 mv9 H locs hw hP hD hS => ?_)
  have hw : mv9.2.2.2.2.1 = nI (lkT (inR (xs (i + 1)) (nI 0) (nI 8) && inR (xs (i + 2)) (nI 0) (nI 8)) (xs (i + 3)) (lsM mv)) ∧ mv9.1 = mv.1 ∧ mv9.2.1 = mv.2.1 ∧ mv9.2.2.2.1 = mv.2.2.2.1 ∧ ((lkT (inR (xs (i + 1)) (nI 0) (nI 8) && inR (xs (i + 2)) (nI 0) (nI 8)) (xs (i + 3)) (lsM mv)) = 0 → r8 = ptF (mv.1 1) ((cn (mv.1 1)).2.2.1 8 (9 * (xs (i + 1)).toNatClampNeg + (xs (i + 2)).toNatClampNeg)) (xs (i + 3))) := hw
  try rw [lsM_N] at hw
  try rw [e1] at hw
  try rw [e2] at hw
  refine lv_lstore (lv' := [(7, .long r8), (6, .int r9), (5, .int (nI i)), (0, .ref b), (1, .ref (ad 0)), (2, .ref (am 0)), (3, .ref o.1), (4, .ref o.2)]) hx hb dL_law_765 hl (by decide) rfl (fun ls hl => ?_)
  refine lv_aload_n hx hb dL_law_767 rfl (lv_at hl 5 rfl) ?_
  refine vp_callSi (va_runV (As := []) (rest := []) ⟨hx, hb, hml, hown, hts⟩ (c_X3_thrown l dd cy am (wY cy ad o (u9, g9, d9)) mv9) (cwV 0 hts gL_law_X3_thrown rfl rfl rfl hd_X3_thrown ⟨Nat.le_of_ble_eq_true rfl, Nat.le_of_ble_eq_true rfl⟩) (rdW_V hP hK (wM_0 cy am mv9 (wY cy ad o (u9, g9, d9))) rfl) rfl rfl hl.1 rfl (lv_room (Nat.le_of_ble_eq_true rfl)) dL_law_768 ⟨by show _ ≤ 603072; omega, by show _ ≤ 7219306; omega⟩).run (fun r7 hr7 => ?_)
  have hq7 : r7 = r9 := by rw [hr7, hz1]; exact hw.1
  refine lv_iload hx hb dL_law_771 (lv_at hl 1 rfl) ?_
  refine lv_icmp_eq (tgt := 778) hx hb dL_law_773 (by decide) (fun _ => ?_) (fun c1 => (by first | exact absurd hq7 c1 | exact absurd c1 hq7))
  refine lv_iload hx hb dL_law_778 (lv_at hl 1 rfl) ?_
  refine lv_if_ne (tgt := 794) hx hb dL_law_780 (by decide) (fun cK => ?_) (fun cK => ?_)
  · have h0 : ¬ (lkT (inR (xs (i + 1)) (nI 0) (nI 8) && inR (xs (i + 2)) (nI 0) (nI 8)) (xs (i + 3)) (lsN (nw u))) = 0 := fun q => cK (by rw [hz1, q]; rfl)
    refine lv_goto (tgt := 1502) hx hb dL_law_794 (by decide) ?_
    refine W.widen (k := cells + 4) (n := slots + 24) (by omega) (by omega) ?_
    exact kk n u9 mv9 g9 d9 H locs ls (tie_mono (tie_fr hT (hz3 h0) hw.2.1 hw.2.2.1 hw.2.2.2.1) (by omega)) (wT_L hP) (wT_LD hD) hS (lv_sub hl [2, 3, 4, 5, 6, 7] rfl)
  · have h0 : (lkT (inR (xs (i + 1)) (nI 0) (nI 8) && inR (xs (i + 2)) (nI 0) (nI 8)) (xs (i + 3)) (lsN (nw u))) = 0 := nI_z (lkT_le _ _ _) (by rw [← hz1]; exact cK)
    obtain ⟨k1, k2⟩ := hz2 h0
    have hv9 : g9 0 = r8 := by rw [k2]; exact (hw.2.2.2.2 h0).symm
    refine lv_aload_n hx hb dL_law_783 rfl (lv_at hl 6 rfl) ?_
    refine lv_iconst (v := nI 0) hx hb dL_law_784 (by decide) ?_
    refine wa_lald hx hb hK hP (wY_69 cy ad am o mv9 u9 g9 d9) (t0 := 1) rfl (i := 0) (by decide) (by decide) dL_law_785 ?_
    refine lv_lload hx hb dL_law_786 (lv_at hl 0 rfl) ?_
    refine wl_eq (tgt := 794) hx hb dL_law_788 dL_law_789 (by decide) (fun _ => ?_) (fun c2 => (by first | exact absurd hv9 c2 | exact absurd c2 hv9))
    refine lv_goto (tgt := 1502) hx hb dL_law_794 (by decide) ?_
    refine W.widen (k := cells + 4) (n := slots + 24) (by omega) (by omega) ?_
    exact kk n u9 mv9 g9 d9 H locs ls (tie_mono (tie_fr hT k1 hw.2.1 hw.2.2.1 hw.2.2.2.1) (by omega)) (wT_L hP) (wT_LD hD) hS (lv_sub hl [2, 3, 4, 5, 6, 7] rfl)
set_option maxHeartbeats 4000000 in
set_option maxRecDepth 100000 in
/-- the law: drawdown -/
theorem lc_drawdown {p : Program} {l : Launch} {e : Env} {s : State} {m : MethodId} {below : List Frame} {meth : Method} {c : Code} {Q : State → Prop} {dd : va_G} {cy : Nat → ClassId} {ad am : Nat → Nat} {tt : Nat × Nat} {N : Nat → Nat} {o : Nat × Nat} {b L : Nat} {xs : Nat → Int32} (hlt : l.stackTraces = false) (C0 : lcx p s m c dd cy tt N b L xs) {i n bb cells slots : Nat} {u : CS} {mv : MS} {g : Nat → Int64} {d : Nat → UInt64} {H : Heap} {locs : List Loc} {ls : Array Slot} (hi : i + 4 ≤ L) (hL : L ≤ 2048) (hT : Tie n bb u mv) (hb0 : 1000 ≤ bb) (hb1 : bb + 900000 ≤ 2 ^ 40) (hce0 : cells + 4 ≤ 603072) (hsl0 : slots + 24 ≤ 7219306) (hP : va_P dd vwCl (wL cy ad o (wM cy am mv) (u, g, d)) H) (hD : va_D (lA s) (wL cy ad o (wM cy am mv) (u, g, d))) (hS : va_S (lA s) s.heap H locs) (hl : lv_has ls 9 [(5, .int (nI i)), (0, .ref b), (1, .ref (ad 0)), (2, .ref (am 0)), (3, .ref o.1), (4, .ref o.2)])
    (kk : ∀ (n : Nat) (u : CS) (mv : MS) (g : Nat → Int64) (d : Nat → UInt64) (H : Heap) (locs : List Loc) (ls : Array Slot), Tie n (bb + 900000) u mv → va_P dd vwCl (wL cy ad o (wM cy am mv) (u, g, d)) H → va_D (lA s) (wL cy ad o (wM cy am mv) (u, g, d)) → va_S (lA s) s.heap H locs → lv_has ls 9 [(5, .int (nI i)), (0, .ref b), (1, .ref (ad 0)), (2, .ref (am 0)), (3, .ref o.1), (4, .ref o.2)] → W p l e room_1 s m #[Value.ref b] below meth c H locs (cells + 4) (slots + 24) Q (F0 m 1502 ls [])) : W p l e room_1 s m #[Value.ref b] below meth c H locs cells slots Q (F0 m 797 ls []) := by
  obtain ⟨hx, hb, hml, hown, hts, hX, hbl, hK, hSt, hE, hN⟩ := C0
  have hA : ∀ q : Nat, s.heap.size ≤ q → lA s q := fun _ h => h
  have hbA : ¬ lA s b := Nat.not_le.mpr hbl
  obtain ⟨hn, hc, hk, hok, hsI, e1, e2, hrg, hB, hsv⟩ := id hT
  refine lv_aload_n hx hb dL_law_797 rfl (lv_at hl 2 rfl) ?_
  refine lv_aload_n hx hb dL_law_798 rfl (lv_at hl 1 rfl) ?_
  refine lv_iload hx hb dL_law_799 (lv_at hl 0 rfl) ?_
  refine lv_iconst (v := nI 1) hx hb dL_law_801 (by decide) ?_
  refine wn_iadd hx hb dL_law_802 ?_
  refine wa_sld hx hb hX hbl hbA hS (i := i + 1) (by omega) (by omega) dL_law_803 ?_
  refine lv_aload_n hx hb dL_law_804 rfl (lv_at hl 1 rfl) ?_
  refine lv_iload hx hb dL_law_805 (lv_at hl 0 rfl) ?_
  refine lv_iconst (v := nI 2) hx hb dL_law_807 (by decide) ?_
  refine wn_iadd hx hb dL_law_808 ?_
  refine wa_sld hx hb hX hbl hbA hS (i := i + 2) (by omega) (by omega) dL_law_809 ?_
  refine lv_aload_n hx hb dL_law_810 rfl (lv_at hl 4 rfl) ?_
  refine wc_calli (vx_runSW (As := [.ref (ad 0), .int (xs (i + 1)), .int (xs (i + 2)), .ref o.1]) (rest := []) ⟨hx, hb, hml, hown, hts⟩ (c_L_drawdown l hlt dd cy ad (wM cy am mv) tt N o u g d _ hrg hsI (xs (i + 1)) (xs (i + 2))) (vx_cwSW 4 hts gL_law_L_drawdown rfl rfl rfl hd_L_drawdown ⟨Nat.le_of_ble_eq_true rfl, Nat.le_of_ble_eq_true rfl⟩) (wrL_S hN hP hK hD hSt hE hS hA) rfl rfl hl.1 rfl (lv_room (Nat.le_of_ble_eq_true rfl)) dL_law_811 ⟨by show _ ≤ 603072; omega, by show _ ≤ 7219306; omega⟩) hD hS hA (fun r9 z9 H locs hz hP hD hS => ?_)
  obtain ⟨u9, g9, d9⟩ := z9
  obtain ⟨hz1, hz2, hz3⟩ := hz
  have hz1 : r9 = nI (lkT (inR (xs (i + 1)) (nI 0) (nI 8)) (xs (i + 2)) (lsN (nw u))) := hz1
  have hz2 : (lkT (inR (xs (i + 1)) (nI 0) (nI 8)) (xs (i + 2)) (lsN (nw u))) = 0 → frP u u9 ∧ (g9 0) = ptF (nw u) (ddM (cn (nw u)) (xs (i + 1)).toNatClampNeg) (xs (i + 2)) := hz2
  have hz3 : (lkT (inR (xs (i + 1)) (nI 0) (nI 8)) (xs (i + 2)) (lsN (nw u))) ≠ 0 → frP u u9 := hz3
  have hP : va_P dd vwCl (wM cy am mv ++ wY cy ad o (u9, g9, d9)) H := wT_M hP
  have hD : va_D (lA s) (wM cy am mv ++ wY cy ad o (u9, g9, d9)) := wT_MD hD
  refine lv_istore (lv' := [(6, .int r9), (5, .int (nI i)), (0, .ref b), (1, .ref (ad 0)), (2, .ref (am 0)), (3, .ref o.1), (4, .ref o.2)]) hx hb dL_law_814 hl (by decide) rfl (fun ls hl => ?_)
  refine lv_aload_n hx hb dL_law_816 rfl (lv_at hl 4 rfl) ?_
  refine lv_aload_n hx hb dL_law_817 rfl (lv_at hl 2 rfl) ?_
  refine lv_iload hx hb dL_law_818 (lv_at hl 1 rfl) ?_
  refine lv_iconst (v := nI 1) hx hb dL_law_820 (by decide) ?_
  refine wn_iadd hx hb dL_law_821 ?_
  refine wa_sld hx hb hX hbl hbA hS (i := i + 1) (by omega) (by omega) dL_law_822 ?_
  refine lv_aload_n hx hb dL_law_823 rfl (lv_at hl 2 rfl) ?_
  refine lv_iload hx hb dL_law_824 (lv_at hl 1 rfl) ?_
  refine lv_iconst (v := nI 2) hx hb dL_law_826 (by decide) ?_
  refine wn_iadd hx hb dL_law_827 ?_
  refine wa_sld hx hb hX hbl hbA hS (i := i + 2) (by omega) (by omega) dL_law_828 ?_
  refine wc_calll (va_runV (As := [.int (xs (i + 1)), .int (xs (i + 2))]) (rest := []) ⟨hx, hb, hml, hown, hts⟩ (c_X3_drawdown l dd cy am (wY cy ad o (u9, g9, d9)) mv _ (xs (i + 1)) (xs (i + 2)) (by rw [e1]; exact GM_rg hrg)) (cwV 2 hts gL_law_X3_drawdown rfl rfl rfl hd_X3_drawdown ⟨Nat.le_of_ble_eq_true rfl, Nat.le_of_ble_eq_true rfl⟩) (wrW_V hP hK hD (wM_0 cy am mv (wY cy ad o (u9, g9, d9))) rfl) rfl rfl hl.1 rfl (lv_room (Nat.le_of_ble_eq_true rfl)) dL_law_829 ⟨by show _ ≤ 603072; omega, by show _ ≤ 7219306; omega⟩) hD hS hA (fun r8 mv9 H locs hw hP hD hS => ?_)
  have hw : mv9.2.2.2.2.1 = nI (lkT (inR (xs (i + 1)) (nI 0) (nI 8)) (xs (i + 2)) (lsM mv)) ∧ mv9.1 = mv.1 ∧ mv9.2.1 = mv.2.1 ∧ mv9.2.2.2.1 = mv.2.2.2.1 ∧ ((lkT (inR (xs (i + 1)) (nI 0) (nI 8)) (xs (i + 2)) (lsM mv)) = 0 → r8 = ptF (mv.1 1) (ddM (cn (mv.1 1)) (xs (i + 1)).toNatClampNeg) (xs (i + 2))) := hw
  try rw [lsM_N] at hw
  try rw [e1] at hw
  try rw [e2] at hw
  refine lv_lstore (lv' := [(7, .long r8), (6, .int r9), (5, .int (nI i)), (0, .ref b), (1, .ref (ad 0)), (2, .ref (am 0)), (3, .ref o.1), (4, .ref o.2)]) hx hb dL_law_832 hl (by decide) rfl (fun ls hl => ?_)
  refine lv_aload_n hx hb dL_law_834 rfl (lv_at hl 5 rfl) ?_
  refine vp_callSi (va_runV (As := []) (rest := []) ⟨hx, hb, hml, hown, hts⟩ (c_X3_thrown l dd cy am (wY cy ad o (u9, g9, d9)) mv9) (cwV 0 hts gL_law_X3_thrown rfl rfl rfl hd_X3_thrown ⟨Nat.le_of_ble_eq_true rfl, Nat.le_of_ble_eq_true rfl⟩) (rdW_V hP hK (wM_0 cy am mv9 (wY cy ad o (u9, g9, d9))) rfl) rfl rfl hl.1 rfl (lv_room (Nat.le_of_ble_eq_true rfl)) dL_law_835 ⟨by show _ ≤ 603072; omega, by show _ ≤ 7219306; omega⟩).run (fun r7 hr7 => ?_)
  have hq7 : r7 = r9 := by rw [hr7, hz1]; exact hw.1
  refine lv_iload hx hb dL_law_838 (lv_at hl 1 rfl) ?_
  refine lv_icmp_eq (tgt := 845) hx hb dL_law_840 (by decide) (fun _ => ?_) (fun c1 => (by first | exact absurd hq7 c1 | exact absurd c1 hq7))
  refine lv_iload hx hb dL_law_845 (lv_at hl 1 rfl) ?_
  refine lv_if_ne (tgt := 861) hx hb dL_law_847 (by decide) (fun cK => ?_) (fun cK => ?_)
  · have h0 : ¬ (lkT (inR (xs (i + 1)) (nI 0) (nI 8)) (xs (i + 2)) (lsN (nw u))) = 0 := fun q => cK (by rw [hz1, q]; rfl)
    refine lv_goto (tgt := 1502) hx hb dL_law_861 (by decide) ?_
    refine W.widen (k := cells + 4) (n := slots + 24) (by omega) (by omega) ?_
    exact kk n u9 mv9 g9 d9 H locs ls (tie_mono (tie_fr hT (hz3 h0) hw.2.1 hw.2.2.1 hw.2.2.2.1) (by omega)) (wT_L hP) (wT_LD hD) hS (lv_sub hl [2, 3, 4, 5, 6, 7] rfl)
  · have h0 : (lkT (inR (xs (i + 1)) (nI 0) (nI 8)) (xs (i + 2)) (lsN (nw u))) = 0 := nI_z (lkT_le _ _ _) (by rw [← hz1]; exact cK)
    obtain ⟨k1, k2⟩ := hz2 h0
    have hv9 : g9 0 = r8 := by rw [k2]; exact (hw.2.2.2.2 h0).symm
    refine lv_aload_n hx hb dL_law_850 rfl (lv_at hl 6 rfl) ?_
    refine lv_iconst (v := nI 0) hx hb dL_law_851 (by decide) ?_
    refine wa_lald hx hb hK hP (wY_69 cy ad am o mv9 u9 g9 d9) (t0 := 1) rfl (i := 0) (by decide) (by decide) dL_law_852 ?_
    refine lv_lload hx hb dL_law_853 (lv_at hl 0 rfl) ?_
    refine wl_eq (tgt := 861) hx hb dL_law_855 dL_law_856 (by decide) (fun _ => ?_) (fun c2 => (by first | exact absurd hv9 c2 | exact absurd c2 hv9))
    refine lv_goto (tgt := 1502) hx hb dL_law_861 (by decide) ?_
    refine W.widen (k := cells + 4) (n := slots + 24) (by omega) (by omega) ?_
    exact kk n u9 mv9 g9 d9 H locs ls (tie_mono (tie_fr hT k1 hw.2.1 hw.2.2.1 hw.2.2.2.1) (by omega)) (wT_L hP) (wT_LD hD) hS (lv_sub hl [2, 3, 4, 5, 6, 7] rfl)
set_option maxHeartbeats 4000000 in
set_option maxRecDepth 100000 in
/-- the law: determinant -/
theorem lc_determinant {p : Program} {l : Launch} {e : Env} {s : State} {m : MethodId} {below : List Frame} {meth : Method} {c : Code} {Q : State → Prop} {dd : va_G} {cy : Nat → ClassId} {ad am : Nat → Nat} {tt : Nat × Nat} {N : Nat → Nat} {o : Nat × Nat} {b L : Nat} {xs : Nat → Int32} (hlt : l.stackTraces = false) (C0 : lcx p s m c dd cy tt N b L xs) {i n bb cells slots : Nat} {u : CS} {mv : MS} {g : Nat → Int64} {d : Nat → UInt64} {H : Heap} {locs : List Loc} {ls : Array Slot} (hi : i + 4 ≤ L) (hL : L ≤ 2048) (hT : Tie n bb u mv) (hb0 : 1000 ≤ bb) (hb1 : bb + 900000 ≤ 2 ^ 40) (hce0 : cells + 4 ≤ 603072) (hsl0 : slots + 24 ≤ 7219306) (hP : va_P dd vwCl (wL cy ad o (wM cy am mv) (u, g, d)) H) (hD : va_D (lA s) (wL cy ad o (wM cy am mv) (u, g, d))) (hS : va_S (lA s) s.heap H locs) (hl : lv_has ls 9 [(5, .int (nI i)), (0, .ref b), (1, .ref (ad 0)), (2, .ref (am 0)), (3, .ref o.1), (4, .ref o.2)])
    (kk : ∀ (n : Nat) (u : CS) (mv : MS) (g : Nat → Int64) (d : Nat → UInt64) (H : Heap) (locs : List Loc) (ls : Array Slot), Tie n (bb + 900000) u mv → va_P dd vwCl (wL cy ad o (wM cy am mv) (u, g, d)) H → va_D (lA s) (wL cy ad o (wM cy am mv) (u, g, d)) → va_S (lA s) s.heap H locs → lv_has ls 9 [(5, .int (nI i)), (0, .ref b), (1, .ref (ad 0)), (2, .ref (am 0)), (3, .ref o.1), (4, .ref o.2)] → W p l e room_1 s m #[Value.ref b] below meth c H locs (cells + 4) (slots + 24) Q (F0 m 1502 ls [])) : W p l e room_1 s m #[Value.ref b] below meth c H locs cells slots Q (F0 m 864 ls []) := by
  obtain ⟨hx, hb, hml, hown, hts, hX, hbl, hK, hSt, hE, hN⟩ := C0
  have hA : ∀ q : Nat, s.heap.size ≤ q → lA s q := fun _ h => h
  have hbA : ¬ lA s b := Nat.not_le.mpr hbl
  obtain ⟨hn, hc, hk, hok, hsI, e1, e2, hrg, hB, hsv⟩ := id hT
  refine lv_aload_n hx hb dL_law_864 rfl (lv_at hl 2 rfl) ?_
  have hP : va_P dd vwCl (wC cy ad u ++ xL cy o g d (wM cy am mv)) H := hP
  have hD : va_D (lA s) (wC cy ad u ++ xL cy o g d (wM cy am mv)) := hD
  refine wc_calll (va_runV (As := []) (rest := []) ⟨hx, hb, hml, hown, hts⟩ (c_X2_determinant l dd cy ad (xL cy o g d (wM cy am mv)) tt u _ hrg hsI) (cwV 0 hts gL_law_X2_determinant rfl rfl rfl hd_X2_determinant ⟨Nat.le_of_ble_eq_true rfl, Nat.le_of_ble_eq_true rfl⟩) (wrC_V hP hK hD hSt hS hA (wC_0 cy ad u (xL cy o g d (wM cy am mv))) rfl) rfl rfl hl.1 rfl (lv_room (Nat.le_of_ble_eq_true rfl)) dL_law_865 ⟨by show _ ≤ 603072; omega, by show _ ≤ 7219306; omega⟩) hD hS hA (fun r9 u9 H locs hz hP hD hS => ?_)
  have hP : va_P dd vwCl (wL cy ad o (wM cy am mv) (u9, g, d)) H := hP
  have hD : va_D (lA s) (wL cy ad o (wM cy am mv) (u9, g, d)) := hD
  have hP : va_P dd vwCl (wM cy am mv ++ wY cy ad o (u9, g, d)) H := wT_M hP
  have hD : va_D (lA s) (wM cy am mv ++ wY cy ad o (u9, g, d)) := wT_MD hD
  refine lv_aload_n hx hb dL_law_868 rfl (lv_at hl 3 rfl) ?_
  refine wc_calll (va_runV (As := []) (rest := [.long r9]) ⟨hx, hb, hml, hown, hts⟩ (c_X3_determinant l dd cy am (wY cy ad o (u9, g, d)) mv _ ) (cwV 0 hts gL_law_X3_determinant rfl rfl rfl hd_X3_determinant ⟨Nat.le_of_ble_eq_true rfl, Nat.le_of_ble_eq_true rfl⟩) (wrW_V hP hK hD (wM_0 cy am mv (wY cy ad o (u9, g, d))) rfl) rfl rfl hl.1 rfl (lv_room (Nat.le_of_ble_eq_true rfl)) dL_law_869 ⟨by show _ ≤ 603072; omega, by show _ ≤ 7219306; omega⟩) hD hS hA (fun r8 mv9 H locs hw hP hD hS => ?_)
  have hw : r8 = Int64.ofInt (det 9 (AM (mv.1 1))) ∧ mv9.2.2.2.2.1 = nI 0 ∧ mv9.1 = mv.1 ∧ mv9.2.1 = mv.2.1 ∧ mv9.2.2.2.1 = mv.2.2.2.1 := hw
  try rw [lsM_N] at hw
  try rw [e1] at hw
  try rw [e2] at hw
  have hq8 : r9 = r8 := by rw [hz.1]; exact hw.1.symm
  refine wl_eq (tgt := 1502) hx hb dL_law_872 dL_law_873 (by decide) (fun _ => ?_) (fun c1 => (by first | exact absurd hq8 c1 | exact absurd c1 hq8))
  refine W.widen (k := cells + 4) (n := slots + 24) (by omega) (by omega) ?_
  exact kk n u9 mv9 g d H locs ls (tie_mono (tie_fr hT hz.2 hw.2.2.1 hw.2.2.2.1 hw.2.2.2.2) (by omega)) (wT_L hP) (wT_LD hD) hS (lv_sub hl [0, 1, 2, 3, 4, 5] rfl)

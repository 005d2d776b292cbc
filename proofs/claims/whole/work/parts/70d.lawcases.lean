set_option maxHeartbeats 4000000 in
set_option maxRecDepth 100000 in
/-- the law: extreme -/
theorem lc_extreme {p : Program} {l : Launch} {e : Env} {s : State} {m : MethodId} {below : List Frame} {meth : Method} {c : Code} {Q : State → Prop} {dd : va_G} {cy : Nat → ClassId} {ad am : Nat → Nat} {tt : Nat × Nat} {N : Nat → Nat} {o : Nat × Nat} {b L : Nat} {xs : Nat → Int32} (hlt : l.stackTraces = false) (C0 : lcx p s m c dd cy tt N b L xs) {i n bb cells slots : Nat} {u : CS} {mv : MS} {g : Nat → Int64} {d : Nat → UInt64} {H : Heap} {locs : List Loc} {ls : Array Slot} (hi : i + 4 ≤ L) (hL : L ≤ 2048) (hT : Tie n bb u mv) (hb0 : 1000 ≤ bb) (hb1 : bb + 900000 ≤ 2 ^ 40) (hce0 : cells + 4 ≤ 603072) (hsl0 : slots + 24 ≤ 7219306) (hP : va_P dd vwCl (wL cy ad o (wM cy am mv) (u, g, d)) H) (hD : va_D (lA s) (wL cy ad o (wM cy am mv) (u, g, d))) (hS : va_S (lA s) s.heap H locs) (hl : lv_has ls 9 [(5, .int (nI i)), (0, .ref b), (1, .ref (ad 0)), (2, .ref (am 0)), (3, .ref o.1), (4, .ref o.2)])
    (kk : ∀ (n : Nat) (u : CS) (mv : MS) (g : Nat → Int64) (d : Nat → UInt64) (H : Heap) (locs : List Loc) (ls : Array Slot), Tie n (bb + 900000) u mv → va_P dd vwCl (wL cy ad o (wM cy am mv) (u, g, d)) H → va_D (lA s) (wL cy ad o (wM cy am mv) (u, g, d)) → va_S (lA s) s.heap H locs → lv_has ls 9 [(5, .int (nI i)), (0, .ref b), (1, .ref (ad 0)), (2, .ref (am 0)), (3, .ref o.1), (4, .ref o.2)] → W p l e room_1 s m #[Value.ref b] below meth c H locs (cells + 4) (slots + 24) Q (F0 m 1502 ls [])) : W p l e room_1 s m #[Value.ref b] below meth c H locs cells slots Q (F0 m 878 ls []) := by
  obtain ⟨hx, hb, hml, hown, hts, hX, hbl, hK, hSt, hE, hN⟩ := C0
  have hA : ∀ q : Nat, s.heap.size ≤ q → lA s q := fun _ h => h
  have hbA : ¬ lA s b := Nat.not_le.mpr hbl
  obtain ⟨hn, hc, hk, hok, hsI, e1, e2, hrg, hB, hsv⟩ := id hT
  refine lv_aload_n hx hb dL_law_878 rfl (lv_at hl 2 rfl) ?_
  refine lv_aload_n hx hb dL_law_879 rfl (lv_at hl 1 rfl) ?_
  refine lv_iload hx hb dL_law_880 (lv_at hl 0 rfl) ?_
  refine lv_iconst (v := nI 1) hx hb dL_law_882 (by decide) ?_
  refine wn_iadd hx hb dL_law_883 ?_
  refine wa_sld hx hb hX hbl hbA hS (i := i + 1) (by omega) (by omega) dL_law_884 ?_
  refine lv_if_eq (tgt := 892) hx hb dL_law_885 (by decide) (fun c1 => ?_) (fun c1 => ?_)
  · refine lv_iconst (v := nI 0) hx hb dL_law_892 (by decide) ?_
    refine lv_aload_n hx hb dL_law_893 rfl (lv_at hl 4 rfl) ?_
    refine wc_calli (vx_runSW (As := [.ref (ad 0), .int (nI 0), .ref o.1]) (rest := []) ⟨hx, hb, hml, hown, hts⟩ (c_L_extreme l hlt dd cy ad (wM cy am mv) tt N o u g d _ false hrg hsI) (vx_cwSW 3 hts gL_law_L_extreme rfl rfl rfl hd_L_extreme ⟨Nat.le_of_ble_eq_true rfl, Nat.le_of_ble_eq_true rfl⟩) (wrL_S hN hP hK hD hSt hE hS hA) rfl rfl hl.1 rfl (lv_room (Nat.le_of_ble_eq_true rfl)) dL_law_894 ⟨by show _ ≤ 603072; omega, by show _ ≤ 7219306; omega⟩) hD hS hA (fun r9 z9 H locs hz hP hD hS => ?_)
    obtain ⟨u9, g9, d9⟩ := z9
    obtain ⟨hz1, hz2, hz3⟩ := hz
    have hz1 : r9 = nI (if lsN (nw u) then 1 else 0) := hz1
    have hz2 : (if lsN (nw u) then 1 else 0) = 0 → ∃ q9 : Int32, g9 0 = q9.toInt64 ∧ frP u u9 ∧ q9 = nI (exF ((cn (nw u)).2.2.1 9) false 8) := hz2
    have hz3 : (if lsN (nw u) then 1 else 0) ≠ 0 → frP u u9 := hz3
    have hP : va_P dd vwCl (wM cy am mv ++ wY cy ad o (u9, g9, d9)) H := wT_M hP
    have hD : va_D (lA s) (wM cy am mv ++ wY cy ad o (u9, g9, d9)) := wT_MD hD
    refine lv_istore (lv' := [(6, .int r9), (5, .int (nI i)), (0, .ref b), (1, .ref (ad 0)), (2, .ref (am 0)), (3, .ref o.1), (4, .ref o.2)]) hx hb dL_law_897 hl (by decide) rfl (fun ls hl => ?_)
    refine lv_aload_n hx hb dL_law_899 rfl (lv_at hl 4 rfl) ?_
    refine lv_aload_n hx hb dL_law_900 rfl (lv_at hl 2 rfl) ?_
    refine lv_iload hx hb dL_law_901 (lv_at hl 1 rfl) ?_
    refine lv_iconst (v := nI 1) hx hb dL_law_903 (by decide) ?_
    refine wn_iadd hx hb dL_law_904 ?_
    refine wa_sld hx hb hX hbl hbA hS (i := i + 1) (by omega) (by omega) dL_law_905 ?_
    refine lv_if_eq (tgt := 913) hx hb dL_law_906 (by decide) (fun _ => ?_) (fun c2 => (by first | exact absurd c1 c2 | exact absurd c2 c1))
    refine lv_iconst (v := nI 0) hx hb dL_law_913 (by decide) ?_
    refine wc_calli (va_runV (As := [.int (nI 0)]) (rest := []) ⟨hx, hb, hml, hown, hts⟩ (c_X3_extreme l dd cy am (wY cy ad o (u9, g9, d9)) mv _ false (by rw [e1]; exact GM_rg hrg)) (cwV 1 hts gL_law_X3_extreme rfl rfl rfl hd_X3_extreme ⟨Nat.le_of_ble_eq_true rfl, Nat.le_of_ble_eq_true rfl⟩) (wrW_V hP hK hD (wM_0 cy am mv (wY cy ad o (u9, g9, d9))) rfl) rfl rfl hl.1 rfl (lv_room (Nat.le_of_ble_eq_true rfl)) dL_law_914 ⟨by show _ ≤ 603072; omega, by show _ ≤ 7219306; omega⟩) hD hS hA (fun r8 mv9 H locs hw hP hD hS => ?_)
    have hw : mv9.2.2.2.2.1 = nI (if lsM mv then 1 else 0) ∧ mv9.1 = mv.1 ∧ mv9.2.1 = mv.2.1 ∧ mv9.2.2.2.1 = mv.2.2.2.1 ∧ (lsM mv = false → r8 = nI (exF ((cn (mv.1 1)).2.2.1 9) false 8)) := hw
    try rw [lsM_N] at hw
    try rw [e1] at hw
    try rw [e2] at hw
    refine lv_istore (lv' := [(7, .int r8), (6, .int r9), (5, .int (nI i)), (0, .ref b), (1, .ref (ad 0)), (2, .ref (am 0)), (3, .ref o.1), (4, .ref o.2)]) hx hb dL_law_917 hl (by decide) rfl (fun ls hl => ?_)
    refine lv_aload_n hx hb dL_law_919 rfl (lv_at hl 5 rfl) ?_
    refine vp_callSi (va_runV (As := []) (rest := []) ⟨hx, hb, hml, hown, hts⟩ (c_X3_thrown l dd cy am (wY cy ad o (u9, g9, d9)) mv9) (cwV 0 hts gL_law_X3_thrown rfl rfl rfl hd_X3_thrown ⟨Nat.le_of_ble_eq_true rfl, Nat.le_of_ble_eq_true rfl⟩) (rdW_V hP hK (wM_0 cy am mv9 (wY cy ad o (u9, g9, d9))) rfl) rfl rfl hl.1 rfl (lv_room (Nat.le_of_ble_eq_true rfl)) dL_law_920 ⟨by show _ ≤ 603072; omega, by show _ ≤ 7219306; omega⟩).run (fun r7 hr7 => ?_)
    have hq7 : r7 = r9 := by rw [hr7, hz1]; exact hw.1
    refine lv_iload hx hb dL_law_923 (lv_at hl 1 rfl) ?_
    refine lv_icmp_eq (tgt := 930) hx hb dL_law_925 (by decide) (fun _ => ?_) (fun c3 => (by first | exact absurd hq7 c3 | exact absurd c3 hq7))
    refine lv_iload hx hb dL_law_930 (lv_at hl 1 rfl) ?_
    refine lv_if_ne (tgt := 947) hx hb dL_law_932 (by decide) (fun cK => ?_) (fun cK => ?_)
    · have h0 : ¬ (if lsN (nw u) then 1 else 0) = 0 := fun q => cK (by rw [hz1, q]; rfl)
      refine lv_goto (tgt := 1502) hx hb dL_law_947 (by decide) ?_
      refine W.widen (k := cells + 4) (n := slots + 24) (by omega) (by omega) ?_
      exact kk n u9 mv9 g9 d9 H locs ls (tie_mono (tie_fr hT (hz3 h0) hw.2.1 hw.2.2.1 hw.2.2.2.1) (by omega)) (wT_L hP) (wT_LD hD) hS (lv_sub hl [2, 3, 4, 5, 6, 7] rfl)
    · have h3 : (if lsN (nw u) then 1 else 0) ≤ 3 := by (repeat' split) <;> decide
      have h0 : (if lsN (nw u) then 1 else 0) = 0 := nI_z h3 (by rw [← hz1]; exact cK)
      obtain ⟨q9, hq1, k1, k2⟩ := hz2 h0
      have hv9 : g9 0 = r8.toInt64 := by rw [hq1, k2, hw.2.2.2.2 (th0 h0)]
      refine lv_aload_n hx hb dL_law_935 rfl (lv_at hl 6 rfl) ?_
      refine lv_iconst (v := nI 0) hx hb dL_law_936 (by decide) ?_
      refine wa_lald hx hb hK hP (wY_69 cy ad am o mv9 u9 g9 d9) (t0 := 1) rfl (i := 0) (by decide) (by decide) dL_law_937 ?_
      refine lv_iload hx hb dL_law_938 (lv_at hl 0 rfl) ?_
      refine lv_i2l hx hb dL_law_940 rfl ?_
      refine wl_eq (tgt := 947) hx hb dL_law_941 dL_law_942 (by decide) (fun _ => ?_) (fun c4 => (by first | exact absurd hv9 c4 | exact absurd c4 hv9))
      refine lv_goto (tgt := 1502) hx hb dL_law_947 (by decide) ?_
      refine W.widen (k := cells + 4) (n := slots + 24) (by omega) (by omega) ?_
      exact kk n u9 mv9 g9 d9 H locs ls (tie_mono (tie_fr hT k1 hw.2.1 hw.2.2.1 hw.2.2.2.1) (by omega)) (wT_L hP) (wT_LD hD) hS (lv_sub hl [2, 3, 4, 5, 6, 7] rfl)
  · refine lv_iconst (v := nI 1) hx hb dL_law_888 (by decide) ?_
    refine lv_goto (tgt := 893) hx hb dL_law_889 (by decide) ?_
    refine lv_aload_n hx hb dL_law_893 rfl (lv_at hl 4 rfl) ?_
    refine wc_calli (vx_runSW (As := [.ref (ad 0), .int (nI 1), .ref o.1]) (rest := []) ⟨hx, hb, hml, hown, hts⟩ (c_L_extreme l hlt dd cy ad (wM cy am mv) tt N o u g d _ true hrg hsI) (vx_cwSW 3 hts gL_law_L_extreme rfl rfl rfl hd_L_extreme ⟨Nat.le_of_ble_eq_true rfl, Nat.le_of_ble_eq_true rfl⟩) (wrL_S hN hP hK hD hSt hE hS hA) rfl rfl hl.1 rfl (lv_room (Nat.le_of_ble_eq_true rfl)) dL_law_894 ⟨by show _ ≤ 603072; omega, by show _ ≤ 7219306; omega⟩) hD hS hA (fun r9 z9 H locs hz hP hD hS => ?_)
    obtain ⟨u9, g9, d9⟩ := z9
    obtain ⟨hz1, hz2, hz3⟩ := hz
    have hz1 : r9 = nI (if lsN (nw u) then 1 else 0) := hz1
    have hz2 : (if lsN (nw u) then 1 else 0) = 0 → ∃ q9 : Int32, g9 0 = q9.toInt64 ∧ frP u u9 ∧ q9 = nI (exF ((cn (nw u)).2.2.1 9) true 8) := hz2
    have hz3 : (if lsN (nw u) then 1 else 0) ≠ 0 → frP u u9 := hz3
    have hP : va_P dd vwCl (wM cy am mv ++ wY cy ad o (u9, g9, d9)) H := wT_M hP
    have hD : va_D (lA s) (wM cy am mv ++ wY cy ad o (u9, g9, d9)) := wT_MD hD
    refine lv_istore (lv' := [(6, .int r9), (5, .int (nI i)), (0, .ref b), (1, .ref (ad 0)), (2, .ref (am 0)), (3, .ref o.1), (4, .ref o.2)]) hx hb dL_law_897 hl (by decide) rfl (fun ls hl => ?_)
    refine lv_aload_n hx hb dL_law_899 rfl (lv_at hl 4 rfl) ?_
    refine lv_aload_n hx hb dL_law_900 rfl (lv_at hl 2 rfl) ?_
    refine lv_iload hx hb dL_law_901 (lv_at hl 1 rfl) ?_
    refine lv_iconst (v := nI 1) hx hb dL_law_903 (by decide) ?_
    refine wn_iadd hx hb dL_law_904 ?_
    refine wa_sld hx hb hX hbl hbA hS (i := i + 1) (by omega) (by omega) dL_law_905 ?_
    refine lv_if_eq (tgt := 913) hx hb dL_law_906 (by decide) (fun c5 => (by first | exact absurd c5 c1 | exact absurd c1 c5)) (fun _ => ?_)
    refine lv_iconst (v := nI 1) hx hb dL_law_909 (by decide) ?_
    refine lv_goto (tgt := 914) hx hb dL_law_910 (by decide) ?_
    refine wc_calli (va_runV (As := [.int (nI 1)]) (rest := []) ⟨hx, hb, hml, hown, hts⟩ (c_X3_extreme l dd cy am (wY cy ad o (u9, g9, d9)) mv _ true (by rw [e1]; exact GM_rg hrg)) (cwV 1 hts gL_law_X3_extreme rfl rfl rfl hd_X3_extreme ⟨Nat.le_of_ble_eq_true rfl, Nat.le_of_ble_eq_true rfl⟩) (wrW_V hP hK hD (wM_0 cy am mv (wY cy ad o (u9, g9, d9))) rfl) rfl rfl hl.1 rfl (lv_room (Nat.le_of_ble_eq_true rfl)) dL_law_914 ⟨by show _ ≤ 603072; omega, by show _ ≤ 7219306; omega⟩) hD hS hA (fun r8 mv9 H locs hw hP hD hS => ?_)
    have hw : mv9.2.2.2.2.1 = nI (if lsM mv then 1 else 0) ∧ mv9.1 = mv.1 ∧ mv9.2.1 = mv.2.1 ∧ mv9.2.2.2.1 = mv.2.2.2.1 ∧ (lsM mv = false → r8 = nI (exF ((cn (mv.1 1)).2.2.1 9) true 8)) := hw
    try rw [lsM_N] at hw
    try rw [e1] at hw
    try rw [e2] at hw
    refine lv_istore (lv' := [(7, .int r8), (6, .int r9), (5, .int (nI i)), (0, .ref b), (1, .ref (ad 0)), (2, .ref (am 0)), (3, .ref o.1), (4, .ref o.2)]) hx hb dL_law_917 hl (by decide) rfl (fun ls hl => ?_)
    refine lv_aload_n hx hb dL_law_919 rfl (lv_at hl 5 rfl) ?_
    refine vp_callSi (va_runV (As := []) (rest := []) ⟨hx, hb, hml, hown, hts⟩ (c_X3_thrown l dd cy am (wY cy ad o (u9, g9, d9)) mv9) (cwV 0 hts gL_law_X3_thrown rfl rfl rfl hd_X3_thrown ⟨Nat.le_of_ble_eq_true rfl, Nat.le_of_ble_eq_true rfl⟩) (rdW_V hP hK (wM_0 cy am mv9 (wY cy ad o (u9, g9, d9))) rfl) rfl rfl hl.1 rfl (lv_room (Nat.le_of_ble_eq_true rfl)) dL_law_920 ⟨by show _ ≤ 603072; omega, by show _ ≤ 7219306; omega⟩).run (fun r7 hr7 => ?_)
    have hq7 : r7 = r9 := by rw [hr7, hz1]; exact hw.1
    refine lv_iload hx hb dL_law_923 (lv_at hl 1 rfl) ?_
    refine lv_icmp_eq (tgt := 930) hx hb dL_law_925 (by decide) (fun _ => ?_) (fun c6 => (by first | exact absurd hq7 c6 | exact absurd c6 hq7))
    refine lv_iload hx hb dL_law_930 (lv_at hl 1 rfl) ?_
    refine lv_if_ne (tgt := 947) hx hb dL_law_932 (by decide) (fun cK => ?_) (fun cK => ?_)
    · have h0 : ¬ (if lsN (nw u) then 1 else 0) = 0 := fun q => cK (by rw [hz1, q]; rfl)
      refine lv_goto (tgt := 1502) hx hb dL_law_947 (by decide) ?_
      refine W.widen (k := cells + 4) (n := slots + 24) (by omega) (by omega) ?_
      exact kk n u9 mv9 g9 d9 H locs ls (tie_mono (tie_fr hT (hz3 h0) hw.2.1 hw.2.2.1 hw.2.2.2.1) (by omega)) (wT_L hP) (wT_LD hD) hS (lv_sub hl [2, 3, 4, 5, 6, 7] rfl)
    · have h3 : (if lsN (nw u) then 1 else 0) ≤ 3 := by (repeat' split) <;> decide
      have h0 : (if lsN (nw u) then 1 else 0) = 0 := nI_z h3 (by rw [← hz1]; exact cK)
      obtain ⟨q9, hq1, k1, k2⟩ := hz2 h0
      have hv9 : g9 0 = r8.toInt64 := by rw [hq1, k2, hw.2.2.2.2 (th0 h0)]
      refine lv_aload_n hx hb dL_law_935 rfl (lv_at hl 6 rfl) ?_
      refine lv_iconst (v := nI 0) hx hb dL_law_936 (by decide) ?_
      refine wa_lald hx hb hK hP (wY_69 cy ad am o mv9 u9 g9 d9) (t0 := 1) rfl (i := 0) (by decide) (by decide) dL_law_937 ?_
      refine lv_iload hx hb dL_law_938 (lv_at hl 0 rfl) ?_
      refine lv_i2l hx hb dL_law_940 rfl ?_
      refine wl_eq (tgt := 947) hx hb dL_law_941 dL_law_942 (by decide) (fun _ => ?_) (fun c7 => (by first | exact absurd hv9 c7 | exact absurd c7 hv9))
      refine lv_goto (tgt := 1502) hx hb dL_law_947 (by decide) ?_
      refine W.widen (k := cells + 4) (n := slots + 24) (by omega) (by omega) ?_
      exact kk n u9 mv9 g9 d9 H locs ls (tie_mono (tie_fr hT k1 hw.2.1 hw.2.2.1 hw.2.2.2.1) (by omega)) (wT_L hP) (wT_LD hD) hS (lv_sub hl [2, 3, 4, 5, 6, 7] rfl)
set_option maxHeartbeats 4000000 in
set_option maxRecDepth 100000 in
/-- the law: dry -/
theorem lc_dry {p : Program} {l : Launch} {e : Env} {s : State} {m : MethodId} {below : List Frame} {meth : Method} {c : Code} {Q : State → Prop} {dd : va_G} {cy : Nat → ClassId} {ad am : Nat → Nat} {tt : Nat × Nat} {N : Nat → Nat} {o : Nat × Nat} {b L : Nat} {xs : Nat → Int32} (hlt : l.stackTraces = false) (C0 : lcx p s m c dd cy tt N b L xs) {i n bb cells slots : Nat} {u : CS} {mv : MS} {g : Nat → Int64} {d : Nat → UInt64} {H : Heap} {locs : List Loc} {ls : Array Slot} (hi : i + 4 ≤ L) (hL : L ≤ 2048) (hT : Tie n bb u mv) (hb0 : 1000 ≤ bb) (hb1 : bb + 900000 ≤ 2 ^ 40) (hce0 : cells + 4 ≤ 603072) (hsl0 : slots + 24 ≤ 7219306) (hP : va_P dd vwCl (wL cy ad o (wM cy am mv) (u, g, d)) H) (hD : va_D (lA s) (wL cy ad o (wM cy am mv) (u, g, d))) (hS : va_S (lA s) s.heap H locs) (hl : lv_has ls 9 [(5, .int (nI i)), (0, .ref b), (1, .ref (ad 0)), (2, .ref (am 0)), (3, .ref o.1), (4, .ref o.2)])
    (kk : ∀ (n : Nat) (u : CS) (mv : MS) (g : Nat → Int64) (d : Nat → UInt64) (H : Heap) (locs : List Loc) (ls : Array Slot), Tie n (bb + 900000) u mv → va_P dd vwCl (wL cy ad o (wM cy am mv) (u, g, d)) H → va_D (lA s) (wL cy ad o (wM cy am mv) (u, g, d)) → va_S (lA s) s.heap H locs → lv_has ls 9 [(5, .int (nI i)), (0, .ref b), (1, .ref (ad 0)), (2, .ref (am 0)), (3, .ref o.1), (4, .ref o.2)] → W p l e room_1 s m #[Value.ref b] below meth c H locs (cells + 4) (slots + 24) Q (F0 m 1502 ls [])) : W p l e room_1 s m #[Value.ref b] below meth c H locs cells slots Q (F0 m 950 ls []) := by
  obtain ⟨hx, hb, hml, hown, hts, hX, hbl, hK, hSt, hE, hN⟩ := C0
  have hA : ∀ q : Nat, s.heap.size ≤ q → lA s q := fun _ h => h
  have hbA : ¬ lA s b := Nat.not_le.mpr hbl
  obtain ⟨hn, hc, hk, hok, hsI, e1, e2, hrg, hB, hsv⟩ := id hT
  refine lv_aload_n hx hb dL_law_950 rfl (lv_at hl 2 rfl) ?_
  refine lv_aload_n hx hb dL_law_951 rfl (lv_at hl 4 rfl) ?_
  refine wc_calli (vx_runSW (As := [.ref (ad 0), .ref o.1]) (rest := []) ⟨hx, hb, hml, hown, hts⟩ (c_L_dry l hlt dd cy ad (wM cy am mv) tt N o u g d _ hrg hsI) (vx_cwSW 2 hts gL_law_L_dry rfl rfl rfl hd_L_dry ⟨Nat.le_of_ble_eq_true rfl, Nat.le_of_ble_eq_true rfl⟩) (wrL_S hN hP hK hD hSt hE hS hA) rfl rfl hl.1 rfl (lv_room (Nat.le_of_ble_eq_true rfl)) dL_law_952 ⟨by show _ ≤ 603072; omega, by show _ ≤ 7219306; omega⟩) hD hS hA (fun r9 z9 H locs hz hP hD hS => ?_)
  obtain ⟨u9, g9, d9⟩ := z9
  obtain ⟨hz1, hz2, hz3⟩ := hz
  have hz1 : r9 = nI (if lsN (nw u) then 1 else 0) := hz1
  have hz2 : (if lsN (nw u) then 1 else 0) = 0 → ∃ q9 : Int32, g9 0 = q9.toInt64 ∧ frP u u9 ∧ q9 = bwF ((cn (nw u)).2.2.1 9) (fun k9 => nw u (54 + k9)) (cn (nw u)).2.2.2.2.2.1 9 := hz2
  have hz3 : (if lsN (nw u) then 1 else 0) ≠ 0 → frP u u9 := hz3
  have hP : va_P dd vwCl (wM cy am mv ++ wY cy ad o (u9, g9, d9)) H := wT_M hP
  have hD : va_D (lA s) (wM cy am mv ++ wY cy ad o (u9, g9, d9)) := wT_MD hD
  refine lv_istore (lv' := [(6, .int r9), (5, .int (nI i)), (0, .ref b), (1, .ref (ad 0)), (2, .ref (am 0)), (3, .ref o.1), (4, .ref o.2)]) hx hb dL_law_955 hl (by decide) rfl (fun ls hl => ?_)
  refine lv_aload_n hx hb dL_law_957 rfl (lv_at hl 4 rfl) ?_
  refine wc_calli (va_runV (As := []) (rest := []) ⟨hx, hb, hml, hown, hts⟩ (c_X3_dry l dd cy am (wY cy ad o (u9, g9, d9)) mv _ (by rw [e1]; exact GM_rg hrg)) (cwV 0 hts gL_law_X3_dry rfl rfl rfl hd_X3_dry ⟨Nat.le_of_ble_eq_true rfl, Nat.le_of_ble_eq_true rfl⟩) (wrW_V hP hK hD (wM_0 cy am mv (wY cy ad o (u9, g9, d9))) rfl) rfl rfl hl.1 rfl (lv_room (Nat.le_of_ble_eq_true rfl)) dL_law_958 ⟨by show _ ≤ 603072; omega, by show _ ≤ 7219306; omega⟩) hD hS hA (fun r8 mv9 H locs hw hP hD hS => ?_)
  have hw : mv9.2.2.2.2.1 = nI (if lsM mv then 1 else 0) ∧ mv9.1 = mv.1 ∧ mv9.2.1 = mv.2.1 ∧ mv9.2.2.2.1 = mv.2.2.2.1 ∧ (lsM mv = false → r8 = bwF ((cn (mv.1 1)).2.2.1 9) (fun k9 => mv.1 1 (54 + k9)) (cn (mv.1 1)).2.2.2.2.2.1 9) := hw
  try rw [lsM_N] at hw
  try rw [e1] at hw
  try rw [e2] at hw
  refine lv_istore (lv' := [(7, .int r8), (6, .int r9), (5, .int (nI i)), (0, .ref b), (1, .ref (ad 0)), (2, .ref (am 0)), (3, .ref o.1), (4, .ref o.2)]) hx hb dL_law_961 hl (by decide) rfl (fun ls hl => ?_)
  refine lv_aload_n hx hb dL_law_963 rfl (lv_at hl 5 rfl) ?_
  refine vp_callSi (va_runV (As := []) (rest := []) ⟨hx, hb, hml, hown, hts⟩ (c_X3_thrown l dd cy am (wY cy ad o (u9, g9, d9)) mv9) (cwV 0 hts gL_law_X3_thrown rfl rfl rfl hd_X3_thrown ⟨Nat.le_of_ble_eq_true rfl, Nat.le_of_ble_eq_true rfl⟩) (rdW_V hP hK (wM_0 cy am mv9 (wY cy ad o (u9, g9, d9))) rfl) rfl rfl hl.1 rfl (lv_room (Nat.le_of_ble_eq_true rfl)) dL_law_964 ⟨by show _ ≤ 603072; omega, by show _ ≤ 7219306; omega⟩).run (fun r7 hr7 => ?_)
  have hq7 : r7 = r9 := by rw [hr7, hz1]; exact hw.1
  refine lv_iload hx hb dL_law_967 (lv_at hl 1 rfl) ?_
  refine lv_icmp_eq (tgt := 974) hx hb dL_law_969 (by decide) (fun _ => ?_) (fun c1 => (by first | exact absurd hq7 c1 | exact absurd c1 hq7))
  refine lv_iload hx hb dL_law_974 (lv_at hl 1 rfl) ?_
  refine lv_if_ne (tgt := 991) hx hb dL_law_976 (by decide) (fun cK => ?_) (fun cK => ?_)
  · have h0 : ¬ (if lsN (nw u) then 1 else 0) = 0 := fun q => cK (by rw [hz1, q]; rfl)
    refine lv_goto (tgt := 1502) hx hb dL_law_991 (by decide) ?_
    refine W.widen (k := cells + 4) (n := slots + 24) (by omega) (by omega) ?_
    exact kk n u9 mv9 g9 d9 H locs ls (tie_mono (tie_fr hT (hz3 h0) hw.2.1 hw.2.2.1 hw.2.2.2.1) (by omega)) (wT_L hP) (wT_LD hD) hS (lv_sub hl [2, 3, 4, 5, 6, 7] rfl)
  · have h3 : (if lsN (nw u) then 1 else 0) ≤ 3 := by (repeat' split) <;> decide
    have h0 : (if lsN (nw u) then 1 else 0) = 0 := nI_z h3 (by rw [← hz1]; exact cK)
    obtain ⟨q9, hq1, k1, k2⟩ := hz2 h0
    have hv9 : g9 0 = r8.toInt64 := by rw [hq1, k2, hw.2.2.2.2 (th0 h0)]
    refine lv_aload_n hx hb dL_law_979 rfl (lv_at hl 6 rfl) ?_
    refine lv_iconst (v := nI 0) hx hb dL_law_980 (by decide) ?_
    refine wa_lald hx hb hK hP (wY_69 cy ad am o mv9 u9 g9 d9) (t0 := 1) rfl (i := 0) (by decide) (by decide) dL_law_981 ?_
    refine lv_iload hx hb dL_law_982 (lv_at hl 0 rfl) ?_
    refine lv_i2l hx hb dL_law_984 rfl ?_
    refine wl_eq (tgt := 991) hx hb dL_law_985 dL_law_986 (by decide) (fun _ => ?_) (fun c2 => (by first | exact absurd hv9 c2 | exact absurd c2 hv9))
    refine lv_goto (tgt := 1502) hx hb dL_law_991 (by decide) ?_
    refine W.widen (k := cells + 4) (n := slots + 24) (by omega) (by omega) ?_
    exact kk n u9 mv9 g9 d9 H locs ls (tie_mono (tie_fr hT k1 hw.2.1 hw.2.2.1 hw.2.2.2.1) (by omega)) (wT_L hP) (wT_LD hD) hS (lv_sub hl [2, 3, 4, 5, 6, 7] rfl)
set_option maxHeartbeats 4000000 in
set_option maxRecDepth 100000 in
/-- the law: isAllowed -/
theorem lc_isAllowed {p : Program} {l : Launch} {e : Env} {s : State} {m : MethodId} {below : List Frame} {meth : Method} {c : Code} {Q : State → Prop} {dd : va_G} {cy : Nat → ClassId} {ad am : Nat → Nat} {tt : Nat × Nat} {N : Nat → Nat} {o : Nat × Nat} {b L : Nat} {xs : Nat → Int32} (hlt : l.stackTraces = false) (C0 : lcx p s m c dd cy tt N b L xs) {i n bb cells slots : Nat} {u : CS} {mv : MS} {g : Nat → Int64} {d : Nat → UInt64} {H : Heap} {locs : List Loc} {ls : Array Slot} (hi : i + 4 ≤ L) (hL : L ≤ 2048) (hT : Tie n bb u mv) (hb0 : 1000 ≤ bb) (hb1 : bb + 900000 ≤ 2 ^ 40) (hce0 : cells + 4 ≤ 603072) (hsl0 : slots + 24 ≤ 7219306) (hP : va_P dd vwCl (wL cy ad o (wM cy am mv) (u, g, d)) H) (hD : va_D (lA s) (wL cy ad o (wM cy am mv) (u, g, d))) (hS : va_S (lA s) s.heap H locs) (hl : lv_has ls 9 [(5, .int (nI i)), (0, .ref b), (1, .ref (ad 0)), (2, .ref (am 0)), (3, .ref o.1), (4, .ref o.2)])
    (kk : ∀ (n : Nat) (u : CS) (mv : MS) (g : Nat → Int64) (d : Nat → UInt64) (H : Heap) (locs : List Loc) (ls : Array Slot), Tie n (bb + 900000) u mv → va_P dd vwCl (wL cy ad o (wM cy am mv) (u, g, d)) H → va_D (lA s) (wL cy ad o (wM cy am mv) (u, g, d)) → va_S (lA s) s.heap H locs → lv_has ls 9 [(5, .int (nI i)), (0, .ref b), (1, .ref (ad 0)), (2, .ref (am 0)), (3, .ref o.1), (4, .ref o.2)] → W p l e room_1 s m #[Value.ref b] below meth c H locs (cells + 4) (slots + 24) Q (F0 m 1502 ls [])) : W p l e room_1 s m #[Value.ref b] below meth c H locs cells slots Q (F0 m 994 ls []) := by
  obtain ⟨hx, hb, hml, hown, hts, hX, hbl, hK, hSt, hE, hN⟩ := C0
  have hA : ∀ q : Nat, s.heap.size ≤ q → lA s q := fun _ h => h
  have hbA : ¬ lA s b := Nat.not_le.mpr hbl
  obtain ⟨hn, hc, hk, hok, hsI, e1, e2, hrg, hB, hsv⟩ := id hT
  refine lv_aload_n hx hb dL_law_994 rfl (lv_at hl 2 rfl) ?_
  refine lv_aload_n hx hb dL_law_995 rfl (lv_at hl 4 rfl) ?_
  refine wc_calli (vx_runSW (As := [.ref (ad 0), .ref o.1]) (rest := []) ⟨hx, hb, hml, hown, hts⟩ (c_L_isAllowed l hlt dd cy ad (wM cy am mv) tt N o u g d _ hrg hsI) (vx_cwSW 2 hts gL_law_L_isAllowed rfl rfl rfl hd_L_isAllowed ⟨Nat.le_of_ble_eq_true rfl, Nat.le_of_ble_eq_true rfl⟩) (wrL_S hN hP hK hD hSt hE hS hA) rfl rfl hl.1 rfl (lv_room (Nat.le_of_ble_eq_true rfl)) dL_law_996 ⟨by show _ ≤ 603072; omega, by show _ ≤ 7219306; omega⟩) hD hS hA (fun r9 z9 H locs hz hP hD hS => ?_)
  obtain ⟨u9, g9, d9⟩ := z9
  obtain ⟨hz1, hz2, hz3⟩ := hz
  have hz1 : r9 = nI (if lsN (nw u) then 1 else 0) := hz1
  have hz2 : (if lsN (nw u) then 1 else 0) = 0 → g9 0 = (if isF (abU (cn (nw u)) 0) 9 then 1 else 0) := hz2
  have hz3 : frP u u9 := hz3
  have hP : va_P dd vwCl (wM cy am mv ++ wY cy ad o (u9, g9, d9)) H := wT_M hP
  have hD : va_D (lA s) (wM cy am mv ++ wY cy ad o (u9, g9, d9)) := wT_MD hD
  refine lv_istore (lv' := [(6, .int r9), (5, .int (nI i)), (0, .ref b), (1, .ref (ad 0)), (2, .ref (am 0)), (3, .ref o.1), (4, .ref o.2)]) hx hb dL_law_999 hl (by decide) rfl (fun ls hl => ?_)
  refine lv_aload_n hx hb dL_law_1001 rfl (lv_at hl 4 rfl) ?_
  refine wc_calli (va_runV (As := []) (rest := []) ⟨hx, hb, hml, hown, hts⟩ (c_X3_isAllowed l dd cy am (wY cy ad o (u9, g9, d9)) mv _ (by rw [e1]; exact GM_rg hrg)) (cwV 0 hts gL_law_X3_isAllowed rfl rfl rfl hd_X3_isAllowed ⟨Nat.le_of_ble_eq_true rfl, Nat.le_of_ble_eq_true rfl⟩) (wrW_V hP hK hD (wM_0 cy am mv (wY cy ad o (u9, g9, d9))) rfl) rfl rfl hl.1 rfl (lv_room (Nat.le_of_ble_eq_true rfl)) dL_law_1002 ⟨by show _ ≤ 603072; omega, by show _ ≤ 7219306; omega⟩) hD hS hA (fun r8 mv9 H locs hw hP hD hS => ?_)
  have hw : mv9.2.2.2.2.1 = nI (if lsM mv then 1 else 0) ∧ mv9.1 = mv.1 ∧ mv9.2.1 = mv.2.1 ∧ mv9.2.2.2.1 = mv.2.2.2.1 ∧ (lsM mv = false → r8 = bI (isF (abU (cn (mv.1 1)) 0) 9)) := hw
  try rw [lsM_N] at hw
  try rw [e1] at hw
  try rw [e2] at hw
  refine lv_istore (lv' := [(7, .int r8), (6, .int r9), (5, .int (nI i)), (0, .ref b), (1, .ref (ad 0)), (2, .ref (am 0)), (3, .ref o.1), (4, .ref o.2)]) hx hb dL_law_1005 hl (by decide) rfl (fun ls hl => ?_)
  refine lv_aload_n hx hb dL_law_1007 rfl (lv_at hl 5 rfl) ?_
  refine vp_callSi (va_runV (As := []) (rest := []) ⟨hx, hb, hml, hown, hts⟩ (c_X3_thrown l dd cy am (wY cy ad o (u9, g9, d9)) mv9) (cwV 0 hts gL_law_X3_thrown rfl rfl rfl hd_X3_thrown ⟨Nat.le_of_ble_eq_true rfl, Nat.le_of_ble_eq_true rfl⟩) (rdW_V hP hK (wM_0 cy am mv9 (wY cy ad o (u9, g9, d9))) rfl) rfl rfl hl.1 rfl (lv_room (Nat.le_of_ble_eq_true rfl)) dL_law_1008 ⟨by show _ ≤ 603072; omega, by show _ ≤ 7219306; omega⟩).run (fun r7 hr7 => ?_)
  have hq7 : r7 = r9 := by rw [hr7, hz1]; exact hw.1
  refine lv_iload hx hb dL_law_1011 (lv_at hl 1 rfl) ?_
  refine lv_icmp_eq (tgt := 1018) hx hb dL_law_1013 (by decide) (fun _ => ?_) (fun c1 => (by first | exact absurd hq7 c1 | exact absurd c1 hq7))
  refine lv_iload hx hb dL_law_1018 (lv_at hl 1 rfl) ?_
  refine lv_if_ne (tgt := 1042) hx hb dL_law_1020 (by decide) (fun cK => ?_) (fun cK => ?_)
  · have h0 : ¬ (if lsN (nw u) then 1 else 0) = 0 := fun q => cK (by rw [hz1, q]; rfl)
    refine lv_goto (tgt := 1502) hx hb dL_law_1042 (by decide) ?_
    refine W.widen (k := cells + 4) (n := slots + 24) (by omega) (by omega) ?_
    exact kk n u9 mv9 g9 d9 H locs ls (tie_mono (tie_fr hT hz3 hw.2.1 hw.2.2.1 hw.2.2.2.1) (by omega)) (wT_L hP) (wT_LD hD) hS (lv_sub hl [2, 3, 4, 5, 6, 7] rfl)
  · have h3 : (if lsN (nw u) then 1 else 0) ≤ 3 := by (repeat' split) <;> decide
    have h0 : (if lsN (nw u) then 1 else 0) = 0 := nI_z h3 (by rw [← hz1]; exact cK)
    have hr8 : bI (isF (abU (cn (nw u)) 0) 9) = r8 := (hw.2.2.2.2 (th0 h0)).symm
    subst hr8
    refine lv_aload_n hx hb dL_law_1023 rfl (lv_at hl 6 rfl) ?_
    refine lv_iconst (v := nI 0) hx hb dL_law_1024 (by decide) ?_
    refine wa_lald hx hb hK hP (wY_69 cy ad am o mv9 u9 g9 d9) (t0 := 1) rfl (i := 0) (by decide) (by decide) dL_law_1025 ?_
    refine lv_iload hx hb dL_law_1026 (lv_at hl 0 rfl) ?_
    refine wb_if_eq (tgt := 1035) hx hb dL_law_1028 (by decide) (fun cB => ?_) (fun cB => ?_)
    · refine lv_lconst (v := 0) hx hb dL_law_1035 rfl ?_
      refine wl_eq (tgt := 1042) hx hb dL_law_1036 dL_law_1037 (by decide) (fun _ => ?_) (fun c2 => (by first | exact absurd (show g9 0 = _ by rw [hz2 h0, cB]; rfl) c2 | exact absurd c2 (show g9 0 = _ by rw [hz2 h0, cB]; rfl)))
      refine lv_goto (tgt := 1502) hx hb dL_law_1042 (by decide) ?_
      refine W.widen (k := cells + 4) (n := slots + 24) (by omega) (by omega) ?_
      exact kk n u9 mv9 g9 d9 H locs ls (tie_mono (tie_fr hT hz3 hw.2.1 hw.2.2.1 hw.2.2.2.1) (by omega)) (wT_L hP) (wT_LD hD) hS (lv_sub hl [2, 3, 4, 5, 6, 7] rfl)
    · refine lv_lconst (v := 1) hx hb dL_law_1031 rfl ?_
      refine lv_goto (tgt := 1036) hx hb dL_law_1032 (by decide) ?_
      refine wl_eq (tgt := 1042) hx hb dL_law_1036 dL_law_1037 (by decide) (fun _ => ?_) (fun c3 => (by first | exact absurd (show g9 0 = _ by rw [hz2 h0, cB]; rfl) c3 | exact absurd c3 (show g9 0 = _ by rw [hz2 h0, cB]; rfl)))
      refine lv_goto (tgt := 1502) hx hb dL_law_1042 (by decide) ?_
      refine W.widen (k := cells + 4) (n := slots + 24) (by omega) (by omega) ?_
      exact kk n u9 mv9 g9 d9 H locs ls (tie_mono (tie_fr hT hz3 hw.2.1 hw.2.2.1 hw.2.2.2.1) (by omega)) (wT_L hP) (wT_LD hD) hS (lv_sub hl [2, 3, 4, 5, 6, 7] rfl)
set_option maxHeartbeats 4000000 in
set_option maxRecDepth 100000 in
/-- the law: greatestRate -/
theorem lc_greatestRate {p : Program} {l : Launch} {e : Env} {s : State} {m : MethodId} {below : List Frame} {meth : Method} {c : Code} {Q : State → Prop} {dd : va_G} {cy : Nat → ClassId} {ad am : Nat → Nat} {tt : Nat × Nat} {N : Nat → Nat} {o : Nat × Nat} {b L : Nat} {xs : Nat → Int32} (hlt : l.stackTraces = false) (C0 : lcx p s m c dd cy tt N b L xs) {i n bb cells slots : Nat} {u : CS} {mv : MS} {g : Nat → Int64} {d : Nat → UInt64} {H : Heap} {locs : List Loc} {ls : Array Slot} (hi : i + 4 ≤ L) (hL : L ≤ 2048) (hT : Tie n bb u mv) (hb0 : 1000 ≤ bb) (hb1 : bb + 900000 ≤ 2 ^ 40) (hce0 : cells + 4 ≤ 603072) (hsl0 : slots + 24 ≤ 7219306) (hP : va_P dd vwCl (wL cy ad o (wM cy am mv) (u, g, d)) H) (hD : va_D (lA s) (wL cy ad o (wM cy am mv) (u, g, d))) (hS : va_S (lA s) s.heap H locs) (hl : lv_has ls 9 [(5, .int (nI i)), (0, .ref b), (1, .ref (ad 0)), (2, .ref (am 0)), (3, .ref o.1), (4, .ref o.2)])
    (kk : ∀ (n : Nat) (u : CS) (mv : MS) (g : Nat → Int64) (d : Nat → UInt64) (H : Heap) (locs : List Loc) (ls : Array Slot), Tie n (bb + 900000) u mv → va_P dd vwCl (wL cy ad o (wM cy am mv) (u, g, d)) H → va_D (lA s) (wL cy ad o (wM cy am mv) (u, g, d)) → va_S (lA s) s.heap H locs → lv_has ls 9 [(5, .int (nI i)), (0, .ref b), (1, .ref (ad 0)), (2, .ref (am 0)), (3, .ref o.1), (4, .ref o.2)] → W p l e room_1 s m #[Value.ref b] below meth c H locs (cells + 4) (slots + 24) Q (F0 m 1502 ls [])) : W p l e room_1 s m #[Value.ref b] below meth c H locs cells slots Q (F0 m 1045 ls []) := by
  obtain ⟨hx, hb, hml, hown, hts, hX, hbl, hK, hSt, hE, hN⟩ := C0
  have hA : ∀ q : Nat, s.heap.size ≤ q → lA s q := fun _ h => h
  have hbA : ¬ lA s b := Nat.not_le.mpr hbl
  obtain ⟨hn, hc, hk, hok, hsI, e1, e2, hrg, hB, hsv⟩ := id hT
  refine lv_aload_n hx hb dL_law_1045 rfl (lv_at hl 2 rfl) ?_
  refine lv_aload_n hx hb dL_law_1046 rfl (lv_at hl 1 rfl) ?_
  refine lv_iload hx hb dL_law_1047 (lv_at hl 0 rfl) ?_
  refine lv_iconst (v := nI 1) hx hb dL_law_1049 (by decide) ?_
  refine wn_iadd hx hb dL_law_1050 ?_
  refine wa_sld hx hb hX hbl hbA hS (i := i + 1) (by omega) (by omega) dL_law_1051 ?_
  refine lv_aload_n hx hb dL_law_1052 rfl (lv_at hl 4 rfl) ?_
  refine wc_calli (vx_runSW (As := [.ref (ad 0), .int (xs (i + 1)), .ref o.1]) (rest := []) ⟨hx, hb, hml, hown, hts⟩ (c_L_greatestRate l hlt dd cy ad (wM cy am mv) tt N o u g d _ hrg hsI (xs (i + 1))) (vx_cwSW 3 hts gL_law_L_greatestRate rfl rfl rfl hd_L_greatestRate ⟨Nat.le_of_ble_eq_true rfl, Nat.le_of_ble_eq_true rfl⟩) (wrL_S hN hP hK hD hSt hE hS hA) rfl rfl hl.1 rfl (lv_room (Nat.le_of_ble_eq_true rfl)) dL_law_1053 ⟨by show _ ≤ 603072; omega, by show _ ≤ 7219306; omega⟩) hD hS hA (fun r9 z9 H locs hz hP hD hS => ?_)
  obtain ⟨u9, g9, d9⟩ := z9
  obtain ⟨hz1, hz2, hz3⟩ := hz
  have hz1 : r9 = nI (if inR (xs (i + 1)) (nI 0) (nI 8) then (if lsN (nw u) then 2 else 0) else 1) := hz1
  have hz2 : (if inR (xs (i + 1)) (nI 0) (nI 8) then (if lsN (nw u) then 2 else 0) else 1) = 0 → ∃ q9 : Int32, g9 0 = q9.toInt64 ∧ frP u u9 ∧ q9 = grU (cn (nw u)) (2 ^ (xs (i + 1)).toNatClampNeg) := hz2
  have hz3 : (if inR (xs (i + 1)) (nI 0) (nI 8) then (if lsN (nw u) then 2 else 0) else 1) ≠ 0 → frP u u9 := hz3
  have hP : va_P dd vwCl (wM cy am mv ++ wY cy ad o (u9, g9, d9)) H := wT_M hP
  have hD : va_D (lA s) (wM cy am mv ++ wY cy ad o (u9, g9, d9)) := wT_MD hD
  refine lv_istore (lv' := [(6, .int r9), (5, .int (nI i)), (0, .ref b), (1, .ref (ad 0)), (2, .ref (am 0)), (3, .ref o.1), (4, .ref o.2)]) hx hb dL_law_1056 hl (by decide) rfl (fun ls hl => ?_)
  refine lv_aload_n hx hb dL_law_1058 rfl (lv_at hl 4 rfl) ?_
  refine lv_aload_n hx hb dL_law_1059 rfl (lv_at hl 2 rfl) ?_
  refine lv_iload hx hb dL_law_1060 (lv_at hl 1 rfl) ?_
  refine lv_iconst (v := nI 1) hx hb dL_law_1062 (by decide) ?_
  refine wn_iadd hx hb dL_law_1063 ?_
  refine wa_sld hx hb hX hbl hbA hS (i := i + 1) (by omega) (by omega) dL_law_1064 ?_
  refine wc_calli (va_runV (As := [.int (xs (i + 1))]) (rest := []) ⟨hx, hb, hml, hown, hts⟩ (c_X3_greatestRate l dd cy am (wY cy ad o (u9, g9, d9)) mv _ (xs (i + 1)) (by rw [e1]; exact GM_rg hrg)) (cwV 1 hts gL_law_X3_greatestRate rfl rfl rfl hd_X3_greatestRate ⟨Nat.le_of_ble_eq_true rfl, Nat.le_of_ble_eq_true rfl⟩) (wrW_V hP hK hD (wM_0 cy am mv (wY cy ad o (u9, g9, d9))) rfl) rfl rfl hl.1 rfl (lv_room (Nat.le_of_ble_eq_true rfl)) dL_law_1065 ⟨by show _ ≤ 603072; omega, by show _ ≤ 7219306; omega⟩) hD hS hA (fun r8 mv9 H locs hw hP hD hS => ?_)
  have hw : mv9.2.2.2.2.1 = nI (if inR (xs (i + 1)) (nI 0) (nI 8) then (if lsM mv then 2 else 0) else 1) ∧ mv9.1 = mv.1 ∧ mv9.2.1 = mv.2.1 ∧ mv9.2.2.2.1 = mv.2.2.2.1 ∧ ((if inR (xs (i + 1)) (nI 0) (nI 8) then (if lsM mv then 2 else 0) else 1) = 0 → r8 = grU (cn (mv.1 1)) (2 ^ (xs (i + 1)).toNatClampNeg)) := hw
  try rw [lsM_N] at hw
  try rw [e1] at hw
  try rw [e2] at hw
  refine lv_istore (lv' := [(7, .int r8), (6, .int r9), (5, .int (nI i)), (0, .ref b), (1, .ref (ad 0)), (2, .ref (am 0)), (3, .ref o.1), (4, .ref o.2)]) hx hb dL_law_1068 hl (by decide) rfl (fun ls hl => ?_)
  refine lv_aload_n hx hb dL_law_1070 rfl (lv_at hl 5 rfl) ?_
  refine vp_callSi (va_runV (As := []) (rest := []) ⟨hx, hb, hml, hown, hts⟩ (c_X3_thrown l dd cy am (wY cy ad o (u9, g9, d9)) mv9) (cwV 0 hts gL_law_X3_thrown rfl rfl rfl hd_X3_thrown ⟨Nat.le_of_ble_eq_true rfl, Nat.le_of_ble_eq_true rfl⟩) (rdW_V hP hK (wM_0 cy am mv9 (wY cy ad o (u9, g9, d9))) rfl) rfl rfl hl.1 rfl (lv_room (Nat.le_of_ble_eq_true rfl)) dL_law_1071 ⟨by show _ ≤ 603072; omega, by show _ ≤ 7219306; omega⟩).run (fun r7 hr7 => ?_)
  have hq7 : r7 = r9 := by rw [hr7, hz1]; exact hw.1
  refine lv_iload hx hb dL_law_1074 (lv_at hl 1 rfl) ?_
  refine lv_icmp_eq (tgt := 1081) hx hb dL_law_1076 (by decide) (fun _ => ?_) (fun c1 => (by first | exact absurd hq7 c1 | exact absurd c1 hq7))
  refine lv_iload hx hb dL_law_1081 (lv_at hl 1 rfl) ?_
  refine lv_if_ne (tgt := 1098) hx hb dL_law_1083 (by decide) (fun cK => ?_) (fun cK => ?_)
  · have h0 : ¬ (if inR (xs (i + 1)) (nI 0) (nI 8) then (if lsN (nw u) then 2 else 0) else 1) = 0 := fun q => cK (by rw [hz1, q]; rfl)
    refine lv_goto (tgt := 1502) hx hb dL_law_1098 (by decide) ?_
    refine W.widen (k := cells + 4) (n := slots + 24) (by omega) (by omega) ?_
    exact kk n u9 mv9 g9 d9 H locs ls (tie_mono (tie_fr hT (hz3 h0) hw.2.1 hw.2.2.1 hw.2.2.2.1) (by omega)) (wT_L hP) (wT_LD hD) hS (lv_sub hl [2, 3, 4, 5, 6, 7] rfl)
  · have h3 : (if inR (xs (i + 1)) (nI 0) (nI 8) then (if lsN (nw u) then 2 else 0) else 1) ≤ 3 := by (repeat' split) <;> decide
    have h0 : (if inR (xs (i + 1)) (nI 0) (nI 8) then (if lsN (nw u) then 2 else 0) else 1) = 0 := nI_z h3 (by rw [← hz1]; exact cK)
    obtain ⟨q9, hq1, k1, k2⟩ := hz2 h0
    have hv9 : g9 0 = r8.toInt64 := by rw [hq1, k2, hw.2.2.2.2 h0]
    refine lv_aload_n hx hb dL_law_1086 rfl (lv_at hl 6 rfl) ?_
    refine lv_iconst (v := nI 0) hx hb dL_law_1087 (by decide) ?_
    refine wa_lald hx hb hK hP (wY_69 cy ad am o mv9 u9 g9 d9) (t0 := 1) rfl (i := 0) (by decide) (by decide) dL_law_1088 ?_
    refine lv_iload hx hb dL_law_1089 (lv_at hl 0 rfl) ?_
    refine lv_i2l hx hb dL_law_1091 rfl ?_
    refine wl_eq (tgt := 1098) hx hb dL_law_1092 dL_law_1093 (by decide) (fun _ => ?_) (fun c2 => (by first | exact absurd hv9 c2 | exact absurd c2 hv9))
    refine lv_goto (tgt := 1502) hx hb dL_law_1098 (by decide) ?_
    refine W.widen (k := cells + 4) (n := slots + 24) (by omega) (by omega) ?_
    exact kk n u9 mv9 g9 d9 H locs ls (tie_mono (tie_fr hT k1 hw.2.1 hw.2.2.1 hw.2.2.2.1) (by omega)) (wT_L hP) (wT_LD hD) hS (lv_sub hl [2, 3, 4, 5, 6, 7] rfl)
set_option maxHeartbeats 4000000 in
set_option maxRecDepth 100000 in
/-- the law: greatestEqual -/
theorem lc_greatestEqual {p : Program} {l : Launch} {e : Env} {s : State} {m : MethodId} {below : List Frame} {meth : Method} {c : Code} {Q : State → Prop} {dd : va_G} {cy : Nat → ClassId} {ad am : Nat → Nat} {tt : Nat × Nat} {N : Nat → Nat} {o : Nat × Nat} {b L : Nat} {xs : Nat → Int32} (hlt : l.stackTraces = false) (C0 : lcx p s m c dd cy tt N b L xs) {i n bb cells slots : Nat} {u : CS} {mv : MS} {g : Nat → Int64} {d : Nat → UInt64} {H : Heap} {locs : List Loc} {ls : Array Slot} (hi : i + 4 ≤ L) (hL : L ≤ 2048) (hT : Tie n bb u mv) (hb0 : 1000 ≤ bb) (hb1 : bb + 900000 ≤ 2 ^ 40) (hce0 : cells + 4 ≤ 603072) (hsl0 : slots + 24 ≤ 7219306) (hP : va_P dd vwCl (wL cy ad o (wM cy am mv) (u, g, d)) H) (hD : va_D (lA s) (wL cy ad o (wM cy am mv) (u, g, d))) (hS : va_S (lA s) s.heap H locs) (hl : lv_has ls 9 [(5, .int (nI i)), (0, .ref b), (1, .ref (ad 0)), (2, .ref (am 0)), (3, .ref o.1), (4, .ref o.2)])
    (kk : ∀ (n : Nat) (u : CS) (mv : MS) (g : Nat → Int64) (d : Nat → UInt64) (H : Heap) (locs : List Loc) (ls : Array Slot), Tie n (bb + 900000) u mv → va_P dd vwCl (wL cy ad o (wM cy am mv) (u, g, d)) H → va_D (lA s) (wL cy ad o (wM cy am mv) (u, g, d)) → va_S (lA s) s.heap H locs → lv_has ls 9 [(5, .int (nI i)), (0, .ref b), (1, .ref (ad 0)), (2, .ref (am 0)), (3, .ref o.1), (4, .ref o.2)] → W p l e room_1 s m #[Value.ref b] below meth c H locs (cells + 4) (slots + 24) Q (F0 m 1502 ls [])) : W p l e room_1 s m #[Value.ref b] below meth c H locs cells slots Q (F0 m 1101 ls []) := by
  obtain ⟨hx, hb, hml, hown, hts, hX, hbl, hK, hSt, hE, hN⟩ := C0
  have hA : ∀ q : Nat, s.heap.size ≤ q → lA s q := fun _ h => h
  have hbA : ¬ lA s b := Nat.not_le.mpr hbl
  obtain ⟨hn, hc, hk, hok, hsI, e1, e2, hrg, hB, hsv⟩ := id hT
  refine lv_aload_n hx hb dL_law_1101 rfl (lv_at hl 2 rfl) ?_
  refine lv_aload_n hx hb dL_law_1102 rfl (lv_at hl 1 rfl) ?_
  refine lv_iload hx hb dL_law_1103 (lv_at hl 0 rfl) ?_
  refine lv_iconst (v := nI 1) hx hb dL_law_1105 (by decide) ?_
  refine wn_iadd hx hb dL_law_1106 ?_
  refine wa_sld hx hb hX hbl hbA hS (i := i + 1) (by omega) (by omega) dL_law_1107 ?_
  refine lv_aload_n hx hb dL_law_1108 rfl (lv_at hl 4 rfl) ?_
  refine wc_calli (vx_runSW (As := [.ref (ad 0), .int (xs (i + 1)), .ref o.1]) (rest := []) ⟨hx, hb, hml, hown, hts⟩ (c_L_greatestEqual l hlt dd cy ad (wM cy am mv) tt N o u g d _ hrg hsI (xs (i + 1))) (vx_cwSW 3 hts gL_law_L_greatestEqual rfl rfl rfl hd_L_greatestEqual ⟨Nat.le_of_ble_eq_true rfl, Nat.le_of_ble_eq_true rfl⟩) (wrL_S hN hP hK hD hSt hE hS hA) rfl rfl hl.1 rfl (lv_room (Nat.le_of_ble_eq_true rfl)) dL_law_1109 ⟨by show _ ≤ 603072; omega, by show _ ≤ 7219306; omega⟩) hD hS hA (fun r9 z9 H locs hz hP hD hS => ?_)
  obtain ⟨u9, g9, d9⟩ := z9
  obtain ⟨hz1, hz2, hz3⟩ := hz
  have hz1 : r9 = nI (if inR (xs (i + 1)) (nI 1) (nI 511) then (if lsN (nw u) then 2 else 0) else 1) := hz1
  have hz2 : (if inR (xs (i + 1)) (nI 1) (nI 511) then (if lsN (nw u) then 2 else 0) else 1) = 0 → ∃ q9 : Int32, g9 0 = q9.toInt64 ∧ frP u u9 ∧ q9 = grU (cn (nw u)) (xs (i + 1)).toNatClampNeg := hz2
  have hz3 : (if inR (xs (i + 1)) (nI 1) (nI 511) then (if lsN (nw u) then 2 else 0) else 1) ≠ 0 → frP u u9 := hz3
  have hP : va_P dd vwCl (wM cy am mv ++ wY cy ad o (u9, g9, d9)) H := wT_M hP
  have hD : va_D (lA s) (wM cy am mv ++ wY cy ad o (u9, g9, d9)) := wT_MD hD
  refine lv_istore (lv' := [(6, .int r9), (5, .int (nI i)), (0, .ref b), (1, .ref (ad 0)), (2, .ref (am 0)), (3, .ref o.1), (4, .ref o.2)]) hx hb dL_law_1112 hl (by decide) rfl (fun ls hl => ?_)
  refine lv_aload_n hx hb dL_law_1114 rfl (lv_at hl 4 rfl) ?_
  refine lv_aload_n hx hb dL_law_1115 rfl (lv_at hl 2 rfl) ?_
  refine lv_iload hx hb dL_law_1116 (lv_at hl 1 rfl) ?_
  refine lv_iconst (v := nI 1) hx hb dL_law_1118 (by decide) ?_
  refine wn_iadd hx hb dL_law_1119 ?_
  refine wa_sld hx hb hX hbl hbA hS (i := i + 1) (by omega) (by omega) dL_law_1120 ?_
  refine wc_calli (va_runV (As := [.int (xs (i + 1))]) (rest := []) ⟨hx, hb, hml, hown, hts⟩ (c_X3_greatestEqual l dd cy am (wY cy ad o (u9, g9, d9)) mv _ (xs (i + 1)) (by rw [e1]; exact GM_rg hrg)) (cwV 1 hts gL_law_X3_greatestEqual rfl rfl rfl hd_X3_greatestEqual ⟨Nat.le_of_ble_eq_true rfl, Nat.le_of_ble_eq_true rfl⟩) (wrW_V hP hK hD (wM_0 cy am mv (wY cy ad o (u9, g9, d9))) rfl) rfl rfl hl.1 rfl (lv_room (Nat.le_of_ble_eq_true rfl)) dL_law_1121 ⟨by show _ ≤ 603072; omega, by show _ ≤ 7219306; omega⟩) hD hS hA (fun r8 mv9 H locs hw hP hD hS => ?_)
  have hw : mv9.2.2.2.2.1 = nI (if inR (xs (i + 1)) (nI 1) (nI 511) then (if lsM mv then 2 else 0) else 1) ∧ mv9.1 = mv.1 ∧ mv9.2.1 = mv.2.1 ∧ mv9.2.2.2.1 = mv.2.2.2.1 ∧ ((if inR (xs (i + 1)) (nI 1) (nI 511) then (if lsM mv then 2 else 0) else 1) = 0 → r8 = grU (cn (mv.1 1)) (xs (i + 1)).toNatClampNeg) := hw
  try rw [lsM_N] at hw
  try rw [e1] at hw
  try rw [e2] at hw
  refine lv_istore (lv' := [(7, .int r8), (6, .int r9), (5, .int (nI i)), (0, .ref b), (1, .ref (ad 0)), (2, .ref (am 0)), (3, .ref o.1), (4, .ref o.2)]) hx hb dL_law_1124 hl (by decide) rfl (fun ls hl => ?_)
  refine lv_aload_n hx hb dL_law_1126 rfl (lv_at hl 5 rfl) ?_
  refine vp_callSi (va_runV (As := []) (rest := []) ⟨hx, hb, hml, hown, hts⟩ (c_X3_thrown l dd cy am (wY cy ad o (u9, g9, d9)) mv9) (cwV 0 hts gL_law_X3_thrown rfl rfl rfl hd_X3_thrown ⟨Nat.le_of_ble_eq_true rfl, Nat.le_of_ble_eq_true rfl⟩) (rdW_V hP hK (wM_0 cy am mv9 (wY cy ad o (u9, g9, d9))) rfl) rfl rfl hl.1 rfl (lv_room (Nat.le_of_ble_eq_true rfl)) dL_law_1127 ⟨by show _ ≤ 603072; omega, by show _ ≤ 7219306; omega⟩).run (fun r7 hr7 => ?_)
  have hq7 : r7 = r9 := by rw [hr7, hz1]; exact hw.1
  refine lv_iload hx hb dL_law_1130 (lv_at hl 1 rfl) ?_
  refine lv_icmp_eq (tgt := 1137) hx hb dL_law_1132 (by decide) (fun _ => ?_) (fun c1 => (by first | exact absurd hq7 c1 | exact absurd c1 hq7))
  refine lv_iload hx hb dL_law_1137 (lv_at hl 1 rfl) ?_
  refine lv_if_ne (tgt := 1154) hx hb dL_law_1139 (by decide) (fun cK => ?_) (fun cK => ?_)
  · have h0 : ¬ (if inR (xs (i + 1)) (nI 1) (nI 511) then (if lsN (nw u) then 2 else 0) else 1) = 0 := fun q => cK (by rw [hz1, q]; rfl)
    refine lv_goto (tgt := 1502) hx hb dL_law_1154 (by decide) ?_
    refine W.widen (k := cells + 4) (n := slots + 24) (by omega) (by omega) ?_
    exact kk n u9 mv9 g9 d9 H locs ls (tie_mono (tie_fr hT (hz3 h0) hw.2.1 hw.2.2.1 hw.2.2.2.1) (by omega)) (wT_L hP) (wT_LD hD) hS (lv_sub hl [2, 3, 4, 5, 6, 7] rfl)
  · have h3 : (if inR (xs (i + 1)) (nI 1) (nI 511) then (if lsN (nw u) then 2 else 0) else 1) ≤ 3 := by (repeat' split) <;> decide
    have h0 : (if inR (xs (i + 1)) (nI 1) (nI 511) then (if lsN (nw u) then 2 else 0) else 1) = 0 := nI_z h3 (by rw [← hz1]; exact cK)
    obtain ⟨q9, hq1, k1, k2⟩ := hz2 h0
    have hv9 : g9 0 = r8.toInt64 := by rw [hq1, k2, hw.2.2.2.2 h0]
    refine lv_aload_n hx hb dL_law_1142 rfl (lv_at hl 6 rfl) ?_
    refine lv_iconst (v := nI 0) hx hb dL_law_1143 (by decide) ?_
    refine wa_lald hx hb hK hP (wY_69 cy ad am o mv9 u9 g9 d9) (t0 := 1) rfl (i := 0) (by decide) (by decide) dL_law_1144 ?_
    refine lv_iload hx hb dL_law_1145 (lv_at hl 0 rfl) ?_
    refine lv_i2l hx hb dL_law_1147 rfl ?_
    refine wl_eq (tgt := 1154) hx hb dL_law_1148 dL_law_1149 (by decide) (fun _ => ?_) (fun c2 => (by first | exact absurd hv9 c2 | exact absurd c2 hv9))
    refine lv_goto (tgt := 1502) hx hb dL_law_1154 (by decide) ?_
    refine W.widen (k := cells + 4) (n := slots + 24) (by omega) (by omega) ?_
    exact kk n u9 mv9 g9 d9 H locs ls (tie_mono (tie_fr hT k1 hw.2.1 hw.2.2.1 hw.2.2.2.1) (by omega)) (wT_L hP) (wT_LD hD) hS (lv_sub hl [2, 3, 4, 5, 6, 7] rfl)
set_option maxHeartbeats 4000000 in
set_option maxRecDepth 100000 in
/-- the law: bestPair -/
theorem lc_bestPair {p : Program} {l : Launch} {e : Env} {s : State} {m : MethodId} {below : List Frame} {meth : Method} {c : Code} {Q : State → Prop} {dd : va_G} {cy : Nat → ClassId} {ad am : Nat → Nat} {tt : Nat × Nat} {N : Nat → Nat} {o : Nat × Nat} {b L : Nat} {xs : Nat → Int32} (hlt : l.stackTraces = false) (C0 : lcx p s m c dd cy tt N b L xs) {i n bb cells slots : Nat} {u : CS} {mv : MS} {g : Nat → Int64} {d : Nat → UInt64} {H : Heap} {locs : List Loc} {ls : Array Slot} (hi : i + 4 ≤ L) (hL : L ≤ 2048) (hT : Tie n bb u mv) (hb0 : 1000 ≤ bb) (hb1 : bb + 900000 ≤ 2 ^ 40) (hce0 : cells + 4 ≤ 603072) (hsl0 : slots + 24 ≤ 7219306) (hP : va_P dd vwCl (wL cy ad o (wM cy am mv) (u, g, d)) H) (hD : va_D (lA s) (wL cy ad o (wM cy am mv) (u, g, d))) (hS : va_S (lA s) s.heap H locs) (hl : lv_has ls 9 [(5, .int (nI i)), (0, .ref b), (1, .ref (ad 0)), (2, .ref (am 0)), (3, .ref o.1), (4, .ref o.2)])
    (kk : ∀ (n : Nat) (u : CS) (mv : MS) (g : Nat → Int64) (d : Nat → UInt64) (H : Heap) (locs : List Loc) (ls : Array Slot), Tie n (bb + 900000) u mv → va_P dd vwCl (wL cy ad o (wM cy am mv) (u, g, d)) H → va_D (lA s) (wL cy ad o (wM cy am mv) (u, g, d)) → va_S (lA s) s.heap H locs → lv_has ls 9 [(5, .int (nI i)), (0, .ref b), (1, .ref (ad 0)), (2, .ref (am 0)), (3, .ref o.1), (4, .ref o.2)] → W p l e room_1 s m #[Value.ref b] below meth c H locs (cells + 4) (slots + 24) Q (F0 m 1502 ls [])) : W p l e room_1 s m #[Value.ref b] below meth c H locs cells slots Q (F0 m 1157 ls []) := by
  obtain ⟨hx, hb, hml, hown, hts, hX, hbl, hK, hSt, hE, hN⟩ := C0
  have hA : ∀ q : Nat, s.heap.size ≤ q → lA s q := fun _ h => h
  have hbA : ¬ lA s b := Nat.not_le.mpr hbl
  obtain ⟨hn, hc, hk, hok, hsI, e1, e2, hrg, hB, hsv⟩ := id hT
  refine lv_aload_n hx hb dL_law_1157 rfl (lv_at hl 2 rfl) ?_
  refine lv_aload_n hx hb dL_law_1158 rfl (lv_at hl 1 rfl) ?_
  refine lv_iload hx hb dL_law_1159 (lv_at hl 0 rfl) ?_
  refine lv_iconst (v := nI 1) hx hb dL_law_1161 (by decide) ?_
  refine wn_iadd hx hb dL_law_1162 ?_
  refine wa_sld hx hb hX hbl hbA hS (i := i + 1) (by omega) (by omega) dL_law_1163 ?_
  refine lv_aload_n hx hb dL_law_1164 rfl (lv_at hl 1 rfl) ?_
  refine lv_iload hx hb dL_law_1165 (lv_at hl 0 rfl) ?_
  refine lv_iconst (v := nI 2) hx hb dL_law_1167 (by decide) ?_
  refine wn_iadd hx hb dL_law_1168 ?_
  refine wa_sld hx hb hX hbl hbA hS (i := i + 2) (by omega) (by omega) dL_law_1169 ?_
  refine lv_aload_n hx hb dL_law_1170 rfl (lv_at hl 4 rfl) ?_
  refine wc_calli (vx_runSW (As := [.ref (ad 0), .int (xs (i + 1)), .int (xs (i + 2)), .ref o.1]) (rest := []) ⟨hx, hb, hml, hown, hts⟩ (c_L_bestPair l hlt dd cy ad (wM cy am mv) tt N o u g d _ hrg hsI (xs (i + 1)) (xs (i + 2))) (vx_cwSW 4 hts gL_law_L_bestPair rfl rfl rfl hd_L_bestPair ⟨Nat.le_of_ble_eq_true rfl, Nat.le_of_ble_eq_true rfl⟩) (wrL_S hN hP hK hD hSt hE hS hA) rfl rfl hl.1 rfl (lv_room (Nat.le_of_ble_eq_true rfl)) dL_law_1171 ⟨by show _ ≤ 603072; omega, by show _ ≤ 7219306; omega⟩) hD hS hA (fun r9 z9 H locs hz hP hD hS => ?_)
  obtain ⟨u9, g9, d9⟩ := z9
  obtain ⟨hz1, hz2, hz3⟩ := hz
  have hz1 : r9 = nI (if inR (xs (i + 1)) (nI 0) (nI 8) && inR (xs (i + 2)) (nI 0) (nI 8) then (if (xs (i + 1)) = (xs (i + 2)) then 2 else if lsN (nw u) then 3 else 0) else 1) := hz1
  have hz2 : (if inR (xs (i + 1)) (nI 0) (nI 8) && inR (xs (i + 2)) (nI 0) (nI 8) then (if (xs (i + 1)) = (xs (i + 2)) then 2 else if lsN (nw u) then 3 else 0) else 1) = 0 → ∃ q9 : Int32, g9 0 = q9.toInt64 ∧ frP u u9 ∧ q9 = boU (cn (nw u)) (xs (i + 1)).toNatClampNeg (xs (i + 2)).toNatClampNeg := hz2
  have hz3 : (if inR (xs (i + 1)) (nI 0) (nI 8) && inR (xs (i + 2)) (nI 0) (nI 8) then (if (xs (i + 1)) = (xs (i + 2)) then 2 else if lsN (nw u) then 3 else 0) else 1) ≠ 0 → frP u u9 := hz3
  have hP : va_P dd vwCl (wM cy am mv ++ wY cy ad o (u9, g9, d9)) H := wT_M hP
  have hD : va_D (lA s) (wM cy am mv ++ wY cy ad o (u9, g9, d9)) := wT_MD hD
  refine lv_istore (lv' := [(6, .int r9), (5, .int (nI i)), (0, .ref b), (1, .ref (ad 0)), (2, .ref (am 0)), (3, .ref o.1), (4, .ref o.2)]) hx hb dL_law_1174 hl (by decide) rfl (fun ls hl => ?_)
  refine lv_aload_n hx hb dL_law_1176 rfl (lv_at hl 4 rfl) ?_
  refine lv_aload_n hx hb dL_law_1177 rfl (lv_at hl 2 rfl) ?_
  refine lv_iload hx hb dL_law_1178 (lv_at hl 1 rfl) ?_
  refine lv_iconst (v := nI 1) hx hb dL_law_1180 (by decide) ?_
  refine wn_iadd hx hb dL_law_1181 ?_
  refine wa_sld hx hb hX hbl hbA hS (i := i + 1) (by omega) (by omega) dL_law_1182 ?_
  refine lv_aload_n hx hb dL_law_1183 rfl (lv_at hl 2 rfl) ?_
  refine lv_iload hx hb dL_law_1184 (lv_at hl 1 rfl) ?_
  refine lv_iconst (v := nI 2) hx hb dL_law_1186 (by decide) ?_
  refine wn_iadd hx hb dL_law_1187 ?_
  refine wa_sld hx hb hX hbl hbA hS (i := i + 2) (by omega) (by omega) dL_law_1188 ?_
  refine wc_calli (va_runV (As := [.int (xs (i + 1)), .int (xs (i + 2))]) (rest := []) ⟨hx, hb, hml, hown, hts⟩ (c_X3_bestPair l dd cy am (wY cy ad o (u9, g9, d9)) mv _ (xs (i + 1)) (xs (i + 2)) (by rw [e1]; exact GM_rg hrg)) (cwV 2 hts gL_law_X3_bestPair rfl rfl rfl hd_X3_bestPair ⟨Nat.le_of_ble_eq_true rfl, Nat.le_of_ble_eq_true rfl⟩) (wrW_V hP hK hD (wM_0 cy am mv (wY cy ad o (u9, g9, d9))) rfl) rfl rfl hl.1 rfl (lv_room (Nat.le_of_ble_eq_true rfl)) dL_law_1189 ⟨by show _ ≤ 603072; omega, by show _ ≤ 7219306; omega⟩) hD hS hA (fun r8 mv9 H locs hw hP hD hS => ?_)
  have hw : mv9.2.2.2.2.1 = nI (if inR (xs (i + 1)) (nI 0) (nI 8) && inR (xs (i + 2)) (nI 0) (nI 8) then (if (xs (i + 1)) = (xs (i + 2)) then 2 else if lsM mv then 3 else 0) else 1) ∧ mv9.1 = mv.1 ∧ mv9.2.1 = mv.2.1 ∧ mv9.2.2.2.1 = mv.2.2.2.1 ∧ ((if inR (xs (i + 1)) (nI 0) (nI 8) && inR (xs (i + 2)) (nI 0) (nI 8) then (if (xs (i + 1)) = (xs (i + 2)) then 2 else if lsM mv then 3 else 0) else 1) = 0 → r8 = boU (cn (mv.1 1)) (xs (i + 1)).toNatClampNeg (xs (i + 2)).toNatClampNeg) := hw
  try rw [lsM_N] at hw
  try rw [e1] at hw
  try rw [e2] at hw
  refine lv_istore (lv' := [(7, .int r8), (6, .int r9), (5, .int (nI i)), (0, .ref b), (1, .ref (ad 0)), (2, .ref (am 0)), (3, .ref o.1), (4, .ref o.2)]) hx hb dL_law_1192 hl (by decide) rfl (fun ls hl => ?_)
  refine lv_aload_n hx hb dL_law_1194 rfl (lv_at hl 5 rfl) ?_
  refine vp_callSi (va_runV (As := []) (rest := []) ⟨hx, hb, hml, hown, hts⟩ (c_X3_thrown l dd cy am (wY cy ad o (u9, g9, d9)) mv9) (cwV 0 hts gL_law_X3_thrown rfl rfl rfl hd_X3_thrown ⟨Nat.le_of_ble_eq_true rfl, Nat.le_of_ble_eq_true rfl⟩) (rdW_V hP hK (wM_0 cy am mv9 (wY cy ad o (u9, g9, d9))) rfl) rfl rfl hl.1 rfl (lv_room (Nat.le_of_ble_eq_true rfl)) dL_law_1195 ⟨by show _ ≤ 603072; omega, by show _ ≤ 7219306; omega⟩).run (fun r7 hr7 => ?_)
  have hq7 : r7 = r9 := by rw [hr7, hz1]; exact hw.1
  refine lv_iload hx hb dL_law_1198 (lv_at hl 1 rfl) ?_
  refine lv_icmp_eq (tgt := 1205) hx hb dL_law_1200 (by decide) (fun _ => ?_) (fun c1 => (by first | exact absurd hq7 c1 | exact absurd c1 hq7))
  refine lv_iload hx hb dL_law_1205 (lv_at hl 1 rfl) ?_
  refine lv_if_ne (tgt := 1222) hx hb dL_law_1207 (by decide) (fun cK => ?_) (fun cK => ?_)
  · have h0 : ¬ (if inR (xs (i + 1)) (nI 0) (nI 8) && inR (xs (i + 2)) (nI 0) (nI 8) then (if (xs (i + 1)) = (xs (i + 2)) then 2 else if lsN (nw u) then 3 else 0) else 1) = 0 := fun q => cK (by rw [hz1, q]; rfl)
    refine lv_goto (tgt := 1502) hx hb dL_law_1222 (by decide) ?_
    refine W.widen (k := cells + 4) (n := slots + 24) (by omega) (by omega) ?_
    exact kk n u9 mv9 g9 d9 H locs ls (tie_mono (tie_fr hT (hz3 h0) hw.2.1 hw.2.2.1 hw.2.2.2.1) (by omega)) (wT_L hP) (wT_LD hD) hS (lv_sub hl [2, 3, 4, 5, 6, 7] rfl)
  · have h3 : (if inR (xs (i + 1)) (nI 0) (nI 8) && inR (xs (i + 2)) (nI 0) (nI 8) then (if (xs (i + 1)) = (xs (i + 2)) then 2 else if lsN (nw u) then 3 else 0) else 1) ≤ 3 := by (repeat' split) <;> decide
    have h0 : (if inR (xs (i + 1)) (nI 0) (nI 8) && inR (xs (i + 2)) (nI 0) (nI 8) then (if (xs (i + 1)) = (xs (i + 2)) then 2 else if lsN (nw u) then 3 else 0) else 1) = 0 := nI_z h3 (by rw [← hz1]; exact cK)
    obtain ⟨q9, hq1, k1, k2⟩ := hz2 h0
    have hv9 : g9 0 = r8.toInt64 := by rw [hq1, k2, hw.2.2.2.2 h0]
    refine lv_aload_n hx hb dL_law_1210 rfl (lv_at hl 6 rfl) ?_
    refine lv_iconst (v := nI 0) hx hb dL_law_1211 (by decide) ?_
    refine wa_lald hx hb hK hP (wY_69 cy ad am o mv9 u9 g9 d9) (t0 := 1) rfl (i := 0) (by decide) (by decide) dL_law_1212 ?_
    refine lv_iload hx hb dL_law_1213 (lv_at hl 0 rfl) ?_
    refine lv_i2l hx hb dL_law_1215 rfl ?_
    refine wl_eq (tgt := 1222) hx hb dL_law_1216 dL_law_1217 (by decide) (fun _ => ?_) (fun c2 => (by first | exact absurd hv9 c2 | exact absurd c2 hv9))
    refine lv_goto (tgt := 1502) hx hb dL_law_1222 (by decide) ?_
    refine W.widen (k := cells + 4) (n := slots + 24) (by omega) (by omega) ?_
    exact kk n u9 mv9 g9 d9 H locs ls (tie_mono (tie_fr hT k1 hw.2.1 hw.2.2.1 hw.2.2.2.1) (by omega)) (wT_L hP) (wT_LD hD) hS (lv_sub hl [2, 3, 4, 5, 6, 7] rfl)

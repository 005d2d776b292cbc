set_option maxHeartbeats 4000000 in
set_option maxRecDepth 100000 in
/-- the law: relax -/
theorem lc_relax {p : Program} {l : Launch} {e : Env} {s : State} {m : MethodId} {below : List Frame} {meth : Method} {c : Code} {Q : State → Prop} {dd : va_G} {cy : Nat → ClassId} {ad am : Nat → Nat} {tt : Nat × Nat} {N : Nat → Nat} {o : Nat × Nat} {b L : Nat} {xs : Nat → Int32} (hlt : l.stackTraces = false) (C0 : lcx p s m c dd cy tt N b L xs) {i n bb cells slots : Nat} {u : CS} {mv : MS} {g : Nat → Int64} {d : Nat → UInt64} {H : Heap} {locs : List Loc} {ls : Array Slot} (hi : i + 4 ≤ L) (hL : L ≤ 2048) (hT : Tie n bb u mv) (hb0 : 1000 ≤ bb) (hb1 : bb + 900000 ≤ 2 ^ 40) (hce0 : cells + 4 ≤ 603072) (hsl0 : slots + 24 ≤ 7219306) (hP : va_P dd vwCl (wL cy ad o (wM cy am mv) (u, g, d)) H) (hD : va_D (lA s) (wL cy ad o (wM cy am mv) (u, g, d))) (hS : va_S (lA s) s.heap H locs) (hl : lv_has ls 9 [(5, .int (nI i)), (0, .ref b), (1, .ref (ad 0)), (2, .ref (am 0)), (3, .ref o.1), (4, .ref o.2)])
    (kk : ∀ (n : Nat) (u : CS) (mv : MS) (g : Nat → Int64) (d : Nat → UInt64) (H : Heap) (locs : List Loc) (ls : Array Slot), Tie n (bb + 900000) u mv → va_P dd vwCl (wL cy ad o (wM cy am mv) (u, g, d)) H → va_D (lA s) (wL cy ad o (wM cy am mv) (u, g, d)) → va_S (lA s) s.heap H locs → lv_has ls 9 [(5, .int (nI i)), (0, .ref b), (1, .ref (ad 0)), (2, .ref (am 0)), (3, .ref o.1), (4, .ref o.2)] → W p l e room_1 s m #[Value.ref b] below meth c H locs (cells + 4) (slots + 24) Q (F0 m 1502 ls [])) : W p l e room_1 s m #[Value.ref b] below meth c H locs cells slots Q (F0 m 1225 ls []) := by
  obtain ⟨hx, hb, hml, hown, hts, hX, hbl, hK, hSt, hE, hN⟩ := C0
  have hA : ∀ q : Nat, s.heap.size ≤ q → lA s q := fun _ h => h
  have hbA : ¬ lA s b := Nat.not_le.mpr hbl
  obtain ⟨hn, hc, hk, hok, hsI, e1, e2, hrg, hB, hsv⟩ := id hT
  refine lv_aload_n hx hb dL_law_1225 rfl (lv_at hl 2 rfl) ?_
  refine lv_aload_n hx hb dL_law_1226 rfl (lv_at hl 1 rfl) ?_
  refine lv_iload hx hb dL_law_1227 (lv_at hl 0 rfl) ?_
  refine lv_iconst (v := nI 1) hx hb dL_law_1229 (by decide) ?_
  refine wn_iadd hx hb dL_law_1230 ?_
  refine wa_sld hx hb hX hbl hbA hS (i := i + 1) (by omega) (by omega) dL_law_1231 ?_
  refine lv_aload hx hb dL_law_1232 (lv_at hl 5 rfl) ?_
  refine wc_calli (vx_runSW (As := [.ref (ad 0), .int (xs (i + 1)), .ref o.2]) (rest := []) ⟨hx, hb, hml, hown, hts⟩ (c_L_relax l hlt dd cy ad (wM cy am mv) tt N o u g d _ n hn hok hc hsI hrg bb hB hb0 (by omega) (xs (i + 1))) (vx_cwSW 3 hts gL_law_L_relax rfl rfl rfl hd_L_relax ⟨Nat.le_of_ble_eq_true rfl, Nat.le_of_ble_eq_true rfl⟩) (wrL_S hN hP hK hD hSt hE hS hA) rfl rfl hl.1 rfl (lv_room (Nat.le_of_ble_eq_true rfl)) dL_law_1234 ⟨by show _ ≤ 603072; omega, by show _ ≤ 7219306; omega⟩) hD hS hA (fun r9 z9 H locs hz hP hD hS => ?_)
  obtain ⟨u9, g9, d9⟩ := z9
  obtain ⟨hz1, hz2, hz3⟩ := hz
  have hz1 : r9 = nI (if inR (xs (i + 1)) (nI 0) (nI 100) then 0 else 1) := hz1
  have hz2 : (if inR (xs (i + 1)) (nI 0) (nI 100) then 0 else 1) = 0 → (d9 0) = (rxN (nw u) (u.2.1 24) (xs (i + 1)).toNatClampNeg).2 ∧ svN n u u9 ∧ nw u9 = nw u ∧ u9.2.1 24 = (rxN (nw u) (u.2.1 24) (xs (i + 1)).toNatClampNeg).1 := hz2
  have hz3 : (if inR (xs (i + 1)) (nI 0) (nI 100) then 0 else 1) ≠ 0 → frP u u9 := hz3
  have hP : va_P dd vwCl (wM cy am mv ++ wY cy ad o (u9, g9, d9)) H := wT_M hP
  have hD : va_D (lA s) (wM cy am mv ++ wY cy ad o (u9, g9, d9)) := wT_MD hD
  refine lv_istore (lv' := [(6, .int r9), (5, .int (nI i)), (0, .ref b), (1, .ref (ad 0)), (2, .ref (am 0)), (3, .ref o.1), (4, .ref o.2)]) hx hb dL_law_1237 hl (by decide) rfl (fun ls hl => ?_)
  refine lv_aload_n hx hb dL_law_1239 rfl (lv_at hl 4 rfl) ?_
  refine lv_aload_n hx hb dL_law_1240 rfl (lv_at hl 2 rfl) ?_
  refine lv_iload hx hb dL_law_1241 (lv_at hl 1 rfl) ?_
  refine lv_iconst (v := nI 1) hx hb dL_law_1243 (by decide) ?_
  refine wn_iadd hx hb dL_law_1244 ?_
  refine wa_sld hx hb hX hbl hbA hS (i := i + 1) (by omega) (by omega) dL_law_1245 ?_
  refine wc_calld (va_runV (As := [.int (xs (i + 1))]) (rest := []) ⟨hx, hb, hml, hown, hts⟩ (c_X3_relax l dd cy am (wY cy ad o (u9, g9, d9)) mv _ n hn hk (xs (i + 1)) (by rw [e1]; exact hrg) bb (by rw [e2]; exact hB) hb0 (by omega)) (cwV 1 hts gL_law_X3_relax rfl rfl rfl hd_X3_relax ⟨Nat.le_of_ble_eq_true rfl, Nat.le_of_ble_eq_true rfl⟩) (wrW_V hP hK hD (wM_0 cy am mv (wY cy ad o (u9, g9, d9))) rfl) rfl rfl hl.1 rfl (lv_room (Nat.le_of_ble_eq_true rfl)) dL_law_1246 ⟨by show _ ≤ 603072; omega, by show _ ≤ 7219306; omega⟩) hD hS hA (fun r8 mv9 H locs hw hP hD hS => ?_)
  have hw : mv9.2.2.2.2.1 = nI (if inR (xs (i + 1)) (nI 0) (nI 100) then 0 else 1) ∧ ((if inR (xs (i + 1)) (nI 0) (nI 100) then 0 else 1) ≠ 0 → mv9.1 = mv.1 ∧ mv9.2.1 = mv.2.1 ∧ mv9.2.2.2.1 = mv.2.2.2.1) ∧ ((if inR (xs (i + 1)) (nI 0) (nI 100) then 0 else 1) = 0 → r8 = (rxN (mv.1 1) (mv.2.1 2) (xs (i + 1)).toNatClampNeg).2 ∧ svP n mv mv9 ∧ mv9.1 1 = mv.1 1 ∧ ∀ j, mv9.2.1 2 j = (rxN (mv.1 1) (mv.2.1 2) (xs (i + 1)).toNatClampNeg).1 j) := hw
  try rw [lsM_N] at hw
  try rw [e1] at hw
  try rw [e2] at hw
  refine lv_dstore (lv' := [(7, .double r8), (6, .int r9), (5, .int (nI i)), (0, .ref b), (1, .ref (ad 0)), (2, .ref (am 0)), (3, .ref o.1), (4, .ref o.2)]) hx hb dL_law_1249 hl (by decide) rfl (fun ls hl => ?_)
  refine lv_aload_n hx hb dL_law_1251 rfl (lv_at hl 5 rfl) ?_
  refine vp_callSi (va_runV (As := []) (rest := []) ⟨hx, hb, hml, hown, hts⟩ (c_X3_thrown l dd cy am (wY cy ad o (u9, g9, d9)) mv9) (cwV 0 hts gL_law_X3_thrown rfl rfl rfl hd_X3_thrown ⟨Nat.le_of_ble_eq_true rfl, Nat.le_of_ble_eq_true rfl⟩) (rdW_V hP hK (wM_0 cy am mv9 (wY cy ad o (u9, g9, d9))) rfl) rfl rfl hl.1 rfl (lv_room (Nat.le_of_ble_eq_true rfl)) dL_law_1252 ⟨by show _ ≤ 603072; omega, by show _ ≤ 7219306; omega⟩).run (fun r7 hr7 => ?_)
  have hq7 : r7 = r9 := by rw [hr7, hz1]; exact hw.1
  refine lv_iload hx hb dL_law_1255 (lv_at hl 1 rfl) ?_
  refine lv_icmp_eq (tgt := 1262) hx hb dL_law_1257 (by decide) (fun _ => ?_) (fun c1 => (by first | exact absurd hq7 c1 | exact absurd c1 hq7))
  refine lv_iload hx hb dL_law_1262 (lv_at hl 1 rfl) ?_
  refine lv_if_ne (tgt := 1299) hx hb dL_law_1264 (by decide) (fun cK => ?_) (fun cK => ?_)
  · have h0 : ¬ (if inR (xs (i + 1)) (nI 0) (nI 100) then 0 else 1) = 0 := fun q => cK (by rw [hz1, q]; rfl)
    refine lv_goto (tgt := 1502) hx hb dL_law_1299 (by decide) ?_
    refine W.widen (k := cells + 4) (n := slots + 24) (by omega) (by omega) ?_
    exact kk n u9 mv9 g9 d9 H locs ls (tie_mono (tie_fr hT (hz3 h0) (hw.2.1 h0).1 (hw.2.1 h0).2.1 (hw.2.1 h0).2.2) (by omega)) (wT_L hP) (wT_LD hD) hS (lv_sub hl [2, 3, 4, 5, 6, 7] rfl)
  · have h3 : (if inR (xs (i + 1)) (nI 0) (nI 100) then 0 else 1) ≤ 3 := by (repeat' split) <;> decide
    have h0 : (if inR (xs (i + 1)) (nI 0) (nI 100) then 0 else 1) = 0 := nI_z h3 (by rw [← hz1]; exact cK)
    obtain ⟨k1, k2, k3, k4⟩ := hz2 h0
    obtain ⟨m1, m2, m3, m4⟩ := hw.2.2 h0
    have hv9 : r8 = d9 0 := by rw [m1, k1]
    subst hv9
    refine lv_aload hx hb dL_law_1267 (lv_at hl 7 rfl) ?_
    refine lv_iconst (v := nI 0) hx hb dL_law_1269 (by decide) ?_
    refine wa_dald hx hb hK hP (wY_70 cy ad am o mv9 u9 g9 d9) (t0 := 2) rfl (i := 0) (by decide) (by decide) dL_law_1270 ?_
    refine lv_dload hx hb dL_law_1271 (lv_at hl 0 rfl) ?_
    refine wd_leq (tgt := 1299) hx hb dL_law_1273 dL_law_1274 (by decide) (fun cD => ?_) (fun cD => ?_)
    · refine lv_goto (tgt := 1502) hx hb dL_law_1299 (by decide) ?_
      have j1 := th1 h0
      have hix := inR_ix (by decide) j1
      have hrx := (rxN_B hrg hB hb0 _ (show bb + 9000 * (xs (i + 1)).toNatClampNeg ≤ 2 ^ 40 by omega)).1
      refine W.widen (k := cells + 4) (n := slots + 24) (by omega) (by omega) ?_
      exact kk (kpM n + 1) u9 mv9 g9 d9 H locs ls (tie_sv (b2 := bb + 900000) hT k2 m2 (by rw [m3, k3]) (by rw [k4]; exact funext m4) (by rw [k3]; exact hrg) (fun j hj => by rw [k4]; exact dB_mono (hrx j hj) (by omega)) (by omega)) (wT_L hP) (wT_LD hD) hS (lv_sub hl [2, 3, 4, 5, 6, 7] rfl)
    · refine lv_aload hx hb dL_law_1277 (lv_at hl 7 rfl) ?_
      refine lv_iconst (v := nI 0) hx hb dL_law_1279 (by decide) ?_
      refine wa_dald hx hb hK hP (wY_70 cy ad am o mv9 u9 g9 d9) (t0 := 2) rfl (i := 0) (by decide) (by decide) dL_law_1280 ?_
      refine lv_aload hx hb dL_law_1281 (lv_at hl 7 rfl) ?_
      refine lv_iconst (v := nI 0) hx hb dL_law_1283 (by decide) ?_
      refine wa_dald hx hb hK hP (wY_70 cy ad am o mv9 u9 g9 d9) (t0 := 2) rfl (i := 0) (by decide) (by decide) dL_law_1284 ?_
      refine wd_leq (tgt := 1297) hx hb dL_law_1285 dL_law_1286 (by decide) (fun c2 => (by first | exact absurd c2 cD | exact absurd cD c2)) (fun _ => ?_)
      refine lv_dload hx hb dL_law_1289 (lv_at hl 0 rfl) ?_
      refine lv_dload hx hb dL_law_1291 (lv_at hl 0 rfl) ?_
      refine wd_lne (tgt := 1299) hx hb dL_law_1293 dL_law_1294 (by decide) (fun _ => ?_) (fun c3 => (by first | exact absurd cD c3 | exact absurd c3 cD))
      refine lv_goto (tgt := 1502) hx hb dL_law_1299 (by decide) ?_
      have j1 := th1 h0
      have hix := inR_ix (by decide) j1
      have hrx := (rxN_B hrg hB hb0 _ (show bb + 9000 * (xs (i + 1)).toNatClampNeg ≤ 2 ^ 40 by omega)).1
      refine W.widen (k := cells + 4) (n := slots + 24) (by omega) (by omega) ?_
      exact kk (kpM n + 1) u9 mv9 g9 d9 H locs ls (tie_sv (b2 := bb + 900000) hT k2 m2 (by rw [m3, k3]) (by rw [k4]; exact funext m4) (by rw [k3]; exact hrg) (fun j hj => by rw [k4]; exact dB_mono (hrx j hj) (by omega)) (by omega)) (wT_L hP) (wT_LD hD) hS (lv_sub hl [2, 3, 4, 5, 6, 7] rfl)
set_option maxHeartbeats 4000000 in
set_option maxRecDepth 100000 in
/-- the law: relaxed -/
theorem lc_relaxed {p : Program} {l : Launch} {e : Env} {s : State} {m : MethodId} {below : List Frame} {meth : Method} {c : Code} {Q : State → Prop} {dd : va_G} {cy : Nat → ClassId} {ad am : Nat → Nat} {tt : Nat × Nat} {N : Nat → Nat} {o : Nat × Nat} {b L : Nat} {xs : Nat → Int32} (hlt : l.stackTraces = false) (C0 : lcx p s m c dd cy tt N b L xs) {i n bb cells slots : Nat} {u : CS} {mv : MS} {g : Nat → Int64} {d : Nat → UInt64} {H : Heap} {locs : List Loc} {ls : Array Slot} (hi : i + 4 ≤ L) (hL : L ≤ 2048) (hT : Tie n bb u mv) (hb0 : 1000 ≤ bb) (hb1 : bb + 900000 ≤ 2 ^ 40) (hce0 : cells + 4 ≤ 603072) (hsl0 : slots + 24 ≤ 7219306) (hP : va_P dd vwCl (wL cy ad o (wM cy am mv) (u, g, d)) H) (hD : va_D (lA s) (wL cy ad o (wM cy am mv) (u, g, d))) (hS : va_S (lA s) s.heap H locs) (hl : lv_has ls 9 [(5, .int (nI i)), (0, .ref b), (1, .ref (ad 0)), (2, .ref (am 0)), (3, .ref o.1), (4, .ref o.2)])
    (kk : ∀ (n : Nat) (u : CS) (mv : MS) (g : Nat → Int64) (d : Nat → UInt64) (H : Heap) (locs : List Loc) (ls : Array Slot), Tie n (bb + 900000) u mv → va_P dd vwCl (wL cy ad o (wM cy am mv) (u, g, d)) H → va_D (lA s) (wL cy ad o (wM cy am mv) (u, g, d)) → va_S (lA s) s.heap H locs → lv_has ls 9 [(5, .int (nI i)), (0, .ref b), (1, .ref (ad 0)), (2, .ref (am 0)), (3, .ref o.1), (4, .ref o.2)] → W p l e room_1 s m #[Value.ref b] below meth c H locs (cells + 4) (slots + 24) Q (F0 m 1502 ls [])) : W p l e room_1 s m #[Value.ref b] below meth c H locs cells slots Q (F0 m 1302 ls []) := by
  obtain ⟨hx, hb, hml, hown, hts, hX, hbl, hK, hSt, hE, hN⟩ := C0
  have hA : ∀ q : Nat, s.heap.size ≤ q → lA s q := fun _ h => h
  have hbA : ¬ lA s b := Nat.not_le.mpr hbl
  obtain ⟨hn, hc, hk, hok, hsI, e1, e2, hrg, hB, hsv⟩ := id hT
  refine lv_aload_n hx hb dL_law_1302 rfl (lv_at hl 2 rfl) ?_
  refine lv_aload_n hx hb dL_law_1303 rfl (lv_at hl 1 rfl) ?_
  refine lv_iload hx hb dL_law_1304 (lv_at hl 0 rfl) ?_
  refine lv_iconst (v := nI 1) hx hb dL_law_1306 (by decide) ?_
  refine wn_iadd hx hb dL_law_1307 ?_
  refine wa_sld hx hb hX hbl hbA hS (i := i + 1) (by omega) (by omega) dL_law_1308 ?_
  refine lv_aload hx hb dL_law_1309 (lv_at hl 5 rfl) ?_
  refine wc_calli (vx_runSW (As := [.ref (ad 0), .int (xs (i + 1)), .ref o.2]) (rest := []) ⟨hx, hb, hml, hown, hts⟩ (c_L_relaxed l hlt dd cy ad (wM cy am mv) tt N o u g d _ hsI (xs (i + 1))) (vx_cwSW 3 hts gL_law_L_relaxed rfl rfl rfl hd_L_relaxed ⟨Nat.le_of_ble_eq_true rfl, Nat.le_of_ble_eq_true rfl⟩) (wrL_S hN hP hK hD hSt hE hS hA) rfl rfl hl.1 rfl (lv_room (Nat.le_of_ble_eq_true rfl)) dL_law_1311 ⟨by show _ ≤ 603072; omega, by show _ ≤ 7219306; omega⟩) hD hS hA (fun r9 z9 H locs hz hP hD hS => ?_)
  obtain ⟨u9, g9, d9⟩ := z9
  obtain ⟨hz1, hz2, hz3⟩ := hz
  have hz1 : r9 = nI (if inR (xs (i + 1)) (nI 0) (nI 8) then 0 else 1) := hz1
  have hz2 : (if inR (xs (i + 1)) (nI 0) (nI 8) then 0 else 1) = 0 → frP u u9 ∧ (d9 0) = u.2.1 24 (xs (i + 1)).toNatClampNeg := hz2
  have hz3 : (if inR (xs (i + 1)) (nI 0) (nI 8) then 0 else 1) ≠ 0 → frP u u9 := hz3
  have hP : va_P dd vwCl (wM cy am mv ++ wY cy ad o (u9, g9, d9)) H := wT_M hP
  have hD : va_D (lA s) (wM cy am mv ++ wY cy ad o (u9, g9, d9)) := wT_MD hD
  refine lv_istore (lv' := [(6, .int r9), (5, .int (nI i)), (0, .ref b), (1, .ref (ad 0)), (2, .ref (am 0)), (3, .ref o.1), (4, .ref o.2)]) hx hb dL_law_1314 hl (by decide) rfl (fun ls hl => ?_)
  refine lv_aload_n hx hb dL_law_1316 rfl (lv_at hl 4 rfl) ?_
  refine lv_aload_n hx hb dL_law_1317 rfl (lv_at hl 2 rfl) ?_
  refine lv_iload hx hb dL_law_1318 (lv_at hl 1 rfl) ?_
  refine lv_iconst (v := nI 1) hx hb dL_law_1320 (by decide) ?_
  refine wn_iadd hx hb dL_law_1321 ?_
  refine wa_sld hx hb hX hbl hbA hS (i := i + 1) (by omega) (by omega) dL_law_1322 ?_
  refine wc_calld (va_runV (As := [.int (xs (i + 1))]) (rest := []) ⟨hx, hb, hml, hown, hts⟩ (c_X3_relaxed l dd cy am (wY cy ad o (u9, g9, d9)) mv _ (xs (i + 1))) (cwV 1 hts gL_law_X3_relaxed rfl rfl rfl hd_X3_relaxed ⟨Nat.le_of_ble_eq_true rfl, Nat.le_of_ble_eq_true rfl⟩) (wrW_V hP hK hD (wM_0 cy am mv (wY cy ad o (u9, g9, d9))) rfl) rfl rfl hl.1 rfl (lv_room (Nat.le_of_ble_eq_true rfl)) dL_law_1323 ⟨by show _ ≤ 603072; omega, by show _ ≤ 7219306; omega⟩) hD hS hA (fun r8 mv9 H locs hw hP hD hS => ?_)
  have hw : mv9.2.2.2.2.1 = nI (if inR (xs (i + 1)) (nI 0) (nI 8) then 0 else 1) ∧ mv9.1 = mv.1 ∧ mv9.2.1 = mv.2.1 ∧ mv9.2.2.2.1 = mv.2.2.2.1 ∧ ((if inR (xs (i + 1)) (nI 0) (nI 8) then 0 else 1) = 0 → r8 = mv.2.1 2 (xs (i + 1)).toNatClampNeg) := hw
  try rw [lsM_N] at hw
  try rw [e1] at hw
  try rw [e2] at hw
  refine lv_dstore (lv' := [(7, .double r8), (6, .int r9), (5, .int (nI i)), (0, .ref b), (1, .ref (ad 0)), (2, .ref (am 0)), (3, .ref o.1), (4, .ref o.2)]) hx hb dL_law_1326 hl (by decide) rfl (fun ls hl => ?_)
  refine lv_aload_n hx hb dL_law_1328 rfl (lv_at hl 5 rfl) ?_
  refine vp_callSi (va_runV (As := []) (rest := []) ⟨hx, hb, hml, hown, hts⟩ (c_X3_thrown l dd cy am (wY cy ad o (u9, g9, d9)) mv9) (cwV 0 hts gL_law_X3_thrown rfl rfl rfl hd_X3_thrown ⟨Nat.le_of_ble_eq_true rfl, Nat.le_of_ble_eq_true rfl⟩) (rdW_V hP hK (wM_0 cy am mv9 (wY cy ad o (u9, g9, d9))) rfl) rfl rfl hl.1 rfl (lv_room (Nat.le_of_ble_eq_true rfl)) dL_law_1329 ⟨by show _ ≤ 603072; omega, by show _ ≤ 7219306; omega⟩).run (fun r7 hr7 => ?_)
  have hq7 : r7 = r9 := by rw [hr7, hz1]; exact hw.1
  refine lv_iload hx hb dL_law_1332 (lv_at hl 1 rfl) ?_
  refine lv_icmp_eq (tgt := 1339) hx hb dL_law_1334 (by decide) (fun _ => ?_) (fun c1 => (by first | exact absurd hq7 c1 | exact absurd c1 hq7))
  refine lv_iload hx hb dL_law_1339 (lv_at hl 1 rfl) ?_
  refine lv_if_ne (tgt := 1376) hx hb dL_law_1341 (by decide) (fun cK => ?_) (fun cK => ?_)
  · have h0 : ¬ (if inR (xs (i + 1)) (nI 0) (nI 8) then 0 else 1) = 0 := fun q => cK (by rw [hz1, q]; rfl)
    refine lv_goto (tgt := 1502) hx hb dL_law_1376 (by decide) ?_
    refine W.widen (k := cells + 4) (n := slots + 24) (by omega) (by omega) ?_
    exact kk n u9 mv9 g9 d9 H locs ls (tie_mono (tie_fr hT (hz3 h0) hw.2.1 hw.2.2.1 hw.2.2.2.1) (by omega)) (wT_L hP) (wT_LD hD) hS (lv_sub hl [2, 3, 4, 5, 6, 7] rfl)
  · have h3 : (if inR (xs (i + 1)) (nI 0) (nI 8) then 0 else 1) ≤ 3 := by (repeat' split) <;> decide
    have h0 : (if inR (xs (i + 1)) (nI 0) (nI 8) then 0 else 1) = 0 := nI_z h3 (by rw [← hz1]; exact cK)
    obtain ⟨k1, k2⟩ := hz2 h0
    have hv9 : r8 = d9 0 := by rw [k2]; exact hw.2.2.2.2 h0
    subst hv9
    refine lv_aload hx hb dL_law_1344 (lv_at hl 7 rfl) ?_
    refine lv_iconst (v := nI 0) hx hb dL_law_1346 (by decide) ?_
    refine wa_dald hx hb hK hP (wY_70 cy ad am o mv9 u9 g9 d9) (t0 := 2) rfl (i := 0) (by decide) (by decide) dL_law_1347 ?_
    refine lv_dload hx hb dL_law_1348 (lv_at hl 0 rfl) ?_
    refine wd_leq (tgt := 1376) hx hb dL_law_1350 dL_law_1351 (by decide) (fun cD => ?_) (fun cD => ?_)
    · refine lv_goto (tgt := 1502) hx hb dL_law_1376 (by decide) ?_
      refine W.widen (k := cells + 4) (n := slots + 24) (by omega) (by omega) ?_
      exact kk n u9 mv9 g9 d9 H locs ls (tie_mono (tie_fr hT k1 hw.2.1 hw.2.2.1 hw.2.2.2.1) (by omega)) (wT_L hP) (wT_LD hD) hS (lv_sub hl [2, 3, 4, 5, 6, 7] rfl)
    · refine lv_aload hx hb dL_law_1354 (lv_at hl 7 rfl) ?_
      refine lv_iconst (v := nI 0) hx hb dL_law_1356 (by decide) ?_
      refine wa_dald hx hb hK hP (wY_70 cy ad am o mv9 u9 g9 d9) (t0 := 2) rfl (i := 0) (by decide) (by decide) dL_law_1357 ?_
      refine lv_aload hx hb dL_law_1358 (lv_at hl 7 rfl) ?_
      refine lv_iconst (v := nI 0) hx hb dL_law_1360 (by decide) ?_
      refine wa_dald hx hb hK hP (wY_70 cy ad am o mv9 u9 g9 d9) (t0 := 2) rfl (i := 0) (by decide) (by decide) dL_law_1361 ?_
      refine wd_leq (tgt := 1374) hx hb dL_law_1362 dL_law_1363 (by decide) (fun c2 => (by first | exact absurd c2 cD | exact absurd cD c2)) (fun _ => ?_)
      refine lv_dload hx hb dL_law_1366 (lv_at hl 0 rfl) ?_
      refine lv_dload hx hb dL_law_1368 (lv_at hl 0 rfl) ?_
      refine wd_lne (tgt := 1376) hx hb dL_law_1370 dL_law_1371 (by decide) (fun _ => ?_) (fun c3 => (by first | exact absurd cD c3 | exact absurd c3 cD))
      refine lv_goto (tgt := 1502) hx hb dL_law_1376 (by decide) ?_
      refine W.widen (k := cells + 4) (n := slots + 24) (by omega) (by omega) ?_
      exact kk n u9 mv9 g9 d9 H locs ls (tie_mono (tie_fr hT k1 hw.2.1 hw.2.2.1 hw.2.2.2.1) (by omega)) (wT_L hP) (wT_LD hD) hS (lv_sub hl [2, 3, 4, 5, 6, 7] rfl)
set_option maxHeartbeats 4000000 in
set_option maxRecDepth 100000 in
/-- the law: error -/
theorem lc_error {p : Program} {l : Launch} {e : Env} {s : State} {m : MethodId} {below : List Frame} {meth : Method} {c : Code} {Q : State → Prop} {dd : va_G} {cy : Nat → ClassId} {ad am : Nat → Nat} {tt : Nat × Nat} {N : Nat → Nat} {o : Nat × Nat} {b L : Nat} {xs : Nat → Int32} (hlt : l.stackTraces = false) (C0 : lcx p s m c dd cy tt N b L xs) {i n bb cells slots : Nat} {u : CS} {mv : MS} {g : Nat → Int64} {d : Nat → UInt64} {H : Heap} {locs : List Loc} {ls : Array Slot} (hi : i + 4 ≤ L) (hL : L ≤ 2048) (hT : Tie n bb u mv) (hb0 : 1000 ≤ bb) (hb1 : bb + 900000 ≤ 2 ^ 40) (hce0 : cells + 4 ≤ 603072) (hsl0 : slots + 24 ≤ 7219306) (hP : va_P dd vwCl (wL cy ad o (wM cy am mv) (u, g, d)) H) (hD : va_D (lA s) (wL cy ad o (wM cy am mv) (u, g, d))) (hS : va_S (lA s) s.heap H locs) (hl : lv_has ls 9 [(5, .int (nI i)), (0, .ref b), (1, .ref (ad 0)), (2, .ref (am 0)), (3, .ref o.1), (4, .ref o.2)])
    (kk : ∀ (n : Nat) (u : CS) (mv : MS) (g : Nat → Int64) (d : Nat → UInt64) (H : Heap) (locs : List Loc) (ls : Array Slot), Tie n (bb + 900000) u mv → va_P dd vwCl (wL cy ad o (wM cy am mv) (u, g, d)) H → va_D (lA s) (wL cy ad o (wM cy am mv) (u, g, d)) → va_S (lA s) s.heap H locs → lv_has ls 9 [(5, .int (nI i)), (0, .ref b), (1, .ref (ad 0)), (2, .ref (am 0)), (3, .ref o.1), (4, .ref o.2)] → W p l e room_1 s m #[Value.ref b] below meth c H locs (cells + 4) (slots + 24) Q (F0 m 1502 ls [])) : W p l e room_1 s m #[Value.ref b] below meth c H locs cells slots Q (F0 m 1379 ls []) := by
  obtain ⟨hx, hb, hml, hown, hts, hX, hbl, hK, hSt, hE, hN⟩ := C0
  have hA : ∀ q : Nat, s.heap.size ≤ q → lA s q := fun _ h => h
  have hbA : ¬ lA s b := Nat.not_le.mpr hbl
  obtain ⟨hn, hc, hk, hok, hsI, e1, e2, hrg, hB, hsv⟩ := id hT
  refine lv_aload_n hx hb dL_law_1379 rfl (lv_at hl 2 rfl) ?_
  refine lv_aload hx hb dL_law_1380 (lv_at hl 5 rfl) ?_
  refine wc_calli (vx_runSW (As := [.ref (ad 0), .ref o.2]) (rest := []) ⟨hx, hb, hml, hown, hts⟩ (c_L_error l hlt dd cy ad (wM cy am mv) tt N o u g d _ hrg hsI bb hB (by omega)) (vx_cwSW 2 hts gL_law_L_error rfl rfl rfl hd_L_error ⟨Nat.le_of_ble_eq_true rfl, Nat.le_of_ble_eq_true rfl⟩) (wrL_S hN hP hK hD hSt hE hS hA) rfl rfl hl.1 rfl (lv_room (Nat.le_of_ble_eq_true rfl)) dL_law_1382 ⟨by show _ ≤ 603072; omega, by show _ ≤ 7219306; omega⟩) hD hS hA (fun r9 z9 H locs hz hP hD hS => ?_)
  obtain ⟨u9, g9, d9⟩ := z9
  obtain ⟨hz1, hz2, hz3⟩ := hz
  have hz1 : r9 = nI (if lsN (nw u) then 1 else 0) := hz1
  have hz2 : (if lsN (nw u) then 1 else 0) = 0 → frP u u9 ∧ (d9 0) = erD (nw u) (u.2.1 24) 9 := hz2
  have hz3 : (if lsN (nw u) then 1 else 0) ≠ 0 → frP u u9 := hz3
  have hP : va_P dd vwCl (wM cy am mv ++ wY cy ad o (u9, g9, d9)) H := wT_M hP
  have hD : va_D (lA s) (wM cy am mv ++ wY cy ad o (u9, g9, d9)) := wT_MD hD
  refine lv_istore (lv' := [(6, .int r9), (5, .int (nI i)), (0, .ref b), (1, .ref (ad 0)), (2, .ref (am 0)), (3, .ref o.1), (4, .ref o.2)]) hx hb dL_law_1385 hl (by decide) rfl (fun ls hl => ?_)
  refine lv_aload_n hx hb dL_law_1387 rfl (lv_at hl 4 rfl) ?_
  refine wc_calld (va_runV (As := []) (rest := []) ⟨hx, hb, hml, hown, hts⟩ (c_X3_error l dd cy am (wY cy ad o (u9, g9, d9)) mv _ (by rw [e1]; exact GM_rg hrg) bb (by rw [e2]; exact hB) (by omega)) (cwV 0 hts gL_law_X3_error rfl rfl rfl hd_X3_error ⟨Nat.le_of_ble_eq_true rfl, Nat.le_of_ble_eq_true rfl⟩) (wrW_V hP hK hD (wM_0 cy am mv (wY cy ad o (u9, g9, d9))) rfl) rfl rfl hl.1 rfl (lv_room (Nat.le_of_ble_eq_true rfl)) dL_law_1388 ⟨by show _ ≤ 603072; omega, by show _ ≤ 7219306; omega⟩) hD hS hA (fun r8 mv9 H locs hw hP hD hS => ?_)
  have hw : mv9.2.2.2.2.1 = nI (if lsM mv then 1 else 0) ∧ mv9.1 = mv.1 ∧ mv9.2.1 = mv.2.1 ∧ mv9.2.2.2.1 = mv.2.2.2.1 ∧ (lsM mv = false → r8 = erD (mv.1 1) (mv.2.1 2) 9) := hw
  try rw [lsM_N] at hw
  try rw [e1] at hw
  try rw [e2] at hw
  refine lv_dstore (lv' := [(7, .double r8), (6, .int r9), (5, .int (nI i)), (0, .ref b), (1, .ref (ad 0)), (2, .ref (am 0)), (3, .ref o.1), (4, .ref o.2)]) hx hb dL_law_1391 hl (by decide) rfl (fun ls hl => ?_)
  refine lv_aload_n hx hb dL_law_1393 rfl (lv_at hl 5 rfl) ?_
  refine vp_callSi (va_runV (As := []) (rest := []) ⟨hx, hb, hml, hown, hts⟩ (c_X3_thrown l dd cy am (wY cy ad o (u9, g9, d9)) mv9) (cwV 0 hts gL_law_X3_thrown rfl rfl rfl hd_X3_thrown ⟨Nat.le_of_ble_eq_true rfl, Nat.le_of_ble_eq_true rfl⟩) (rdW_V hP hK (wM_0 cy am mv9 (wY cy ad o (u9, g9, d9))) rfl) rfl rfl hl.1 rfl (lv_room (Nat.le_of_ble_eq_true rfl)) dL_law_1394 ⟨by show _ ≤ 603072; omega, by show _ ≤ 7219306; omega⟩).run (fun r7 hr7 => ?_)
  have hq7 : r7 = r9 := by rw [hr7, hz1]; exact hw.1
  refine lv_iload hx hb dL_law_1397 (lv_at hl 1 rfl) ?_
  refine lv_icmp_eq (tgt := 1404) hx hb dL_law_1399 (by decide) (fun _ => ?_) (fun c1 => (by first | exact absurd hq7 c1 | exact absurd c1 hq7))
  refine lv_iload hx hb dL_law_1404 (lv_at hl 1 rfl) ?_
  refine lv_if_ne (tgt := 1441) hx hb dL_law_1406 (by decide) (fun cK => ?_) (fun cK => ?_)
  · have h0 : ¬ (if lsN (nw u) then 1 else 0) = 0 := fun q => cK (by rw [hz1, q]; rfl)
    refine lv_goto (tgt := 1502) hx hb dL_law_1441 (by decide) ?_
    refine W.widen (k := cells + 4) (n := slots + 24) (by omega) (by omega) ?_
    exact kk n u9 mv9 g9 d9 H locs ls (tie_mono (tie_fr hT (hz3 h0) hw.2.1 hw.2.2.1 hw.2.2.2.1) (by omega)) (wT_L hP) (wT_LD hD) hS (lv_sub hl [2, 3, 4, 5, 6, 7] rfl)
  · have h3 : (if lsN (nw u) then 1 else 0) ≤ 3 := by (repeat' split) <;> decide
    have h0 : (if lsN (nw u) then 1 else 0) = 0 := nI_z h3 (by rw [← hz1]; exact cK)
    obtain ⟨k1, k2⟩ := hz2 h0
    have hv9 : r8 = d9 0 := by rw [k2]; exact hw.2.2.2.2 (th0 h0)
    subst hv9
    refine lv_aload hx hb dL_law_1409 (lv_at hl 7 rfl) ?_
    refine lv_iconst (v := nI 0) hx hb dL_law_1411 (by decide) ?_
    refine wa_dald hx hb hK hP (wY_70 cy ad am o mv9 u9 g9 d9) (t0 := 2) rfl (i := 0) (by decide) (by decide) dL_law_1412 ?_
    refine lv_dload hx hb dL_law_1413 (lv_at hl 0 rfl) ?_
    refine wd_leq (tgt := 1441) hx hb dL_law_1415 dL_law_1416 (by decide) (fun cD => ?_) (fun cD => ?_)
    · refine lv_goto (tgt := 1502) hx hb dL_law_1441 (by decide) ?_
      refine W.widen (k := cells + 4) (n := slots + 24) (by omega) (by omega) ?_
      exact kk n u9 mv9 g9 d9 H locs ls (tie_mono (tie_fr hT k1 hw.2.1 hw.2.2.1 hw.2.2.2.1) (by omega)) (wT_L hP) (wT_LD hD) hS (lv_sub hl [2, 3, 4, 5, 6, 7] rfl)
    · refine lv_aload hx hb dL_law_1419 (lv_at hl 7 rfl) ?_
      refine lv_iconst (v := nI 0) hx hb dL_law_1421 (by decide) ?_
      refine wa_dald hx hb hK hP (wY_70 cy ad am o mv9 u9 g9 d9) (t0 := 2) rfl (i := 0) (by decide) (by decide) dL_law_1422 ?_
      refine lv_aload hx hb dL_law_1423 (lv_at hl 7 rfl) ?_
      refine lv_iconst (v := nI 0) hx hb dL_law_1425 (by decide) ?_
      refine wa_dald hx hb hK hP (wY_70 cy ad am o mv9 u9 g9 d9) (t0 := 2) rfl (i := 0) (by decide) (by decide) dL_law_1426 ?_
      refine wd_leq (tgt := 1439) hx hb dL_law_1427 dL_law_1428 (by decide) (fun c2 => (by first | exact absurd c2 cD | exact absurd cD c2)) (fun _ => ?_)
      refine lv_dload hx hb dL_law_1431 (lv_at hl 0 rfl) ?_
      refine lv_dload hx hb dL_law_1433 (lv_at hl 0 rfl) ?_
      refine wd_lne (tgt := 1441) hx hb dL_law_1435 dL_law_1436 (by decide) (fun _ => ?_) (fun c3 => (by first | exact absurd cD c3 | exact absurd c3 cD))
      refine lv_goto (tgt := 1502) hx hb dL_law_1441 (by decide) ?_
      refine W.widen (k := cells + 4) (n := slots + 24) (by omega) (by omega) ?_
      exact kk n u9 mv9 g9 d9 H locs ls (tie_mono (tie_fr hT k1 hw.2.1 hw.2.2.1 hw.2.2.2.1) (by omega)) (wT_L hP) (wT_LD hD) hS (lv_sub hl [2, 3, 4, 5, 6, 7] rfl)
set_option maxHeartbeats 4000000 in
set_option maxRecDepth 100000 in
/-- the law: undo -/
theorem lc_undo {p : Program} {l : Launch} {e : Env} {s : State} {m : MethodId} {below : List Frame} {meth : Method} {c : Code} {Q : State → Prop} {dd : va_G} {cy : Nat → ClassId} {ad am : Nat → Nat} {tt : Nat × Nat} {N : Nat → Nat} {o : Nat × Nat} {b L : Nat} {xs : Nat → Int32} (hlt : l.stackTraces = false) (C0 : lcx p s m c dd cy tt N b L xs) {i n bb cells slots : Nat} {u : CS} {mv : MS} {g : Nat → Int64} {d : Nat → UInt64} {H : Heap} {locs : List Loc} {ls : Array Slot} (hi : i + 4 ≤ L) (hL : L ≤ 2048) (hT : Tie n bb u mv) (hb0 : 1000 ≤ bb) (hb1 : bb + 900000 ≤ 2 ^ 40) (hce0 : cells + 4 ≤ 603072) (hsl0 : slots + 24 ≤ 7219306) (hP : va_P dd vwCl (wL cy ad o (wM cy am mv) (u, g, d)) H) (hD : va_D (lA s) (wL cy ad o (wM cy am mv) (u, g, d))) (hS : va_S (lA s) s.heap H locs) (hl : lv_has ls 9 [(5, .int (nI i)), (0, .ref b), (1, .ref (ad 0)), (2, .ref (am 0)), (3, .ref o.1), (4, .ref o.2)])
    (kk : ∀ (n : Nat) (u : CS) (mv : MS) (g : Nat → Int64) (d : Nat → UInt64) (H : Heap) (locs : List Loc) (ls : Array Slot), Tie n (bb + 900000) u mv → va_P dd vwCl (wL cy ad o (wM cy am mv) (u, g, d)) H → va_D (lA s) (wL cy ad o (wM cy am mv) (u, g, d)) → va_S (lA s) s.heap H locs → lv_has ls 9 [(5, .int (nI i)), (0, .ref b), (1, .ref (ad 0)), (2, .ref (am 0)), (3, .ref o.1), (4, .ref o.2)] → W p l e room_1 s m #[Value.ref b] below meth c H locs (cells + 4) (slots + 24) Q (F0 m 1502 ls [])) : W p l e room_1 s m #[Value.ref b] below meth c H locs cells slots Q (F0 m 1444 ls []) := by
  obtain ⟨hx, hb, hml, hown, hts, hX, hbl, hK, hSt, hE, hN⟩ := C0
  have hA : ∀ q : Nat, s.heap.size ≤ q → lA s q := fun _ h => h
  have hbA : ¬ lA s b := Nat.not_le.mpr hbl
  obtain ⟨hn, hc, hk, hok, hsI, e1, e2, hrg, hB, hsv⟩ := id hT
  refine lv_aload_n hx hb dL_law_1444 rfl (lv_at hl 2 rfl) ?_
  refine lv_aload_n hx hb dL_law_1445 rfl (lv_at hl 4 rfl) ?_
  refine wc_calli (vx_runSW (As := [.ref (ad 0), .ref o.1]) (rest := []) ⟨hx, hb, hml, hown, hts⟩ (c_L_undo l hlt dd cy ad (wM cy am mv) tt N o u g d _ n hn hok hc hsI) (vx_cwSW 2 hts gL_law_L_undo rfl rfl rfl hd_L_undo ⟨Nat.le_of_ble_eq_true rfl, Nat.le_of_ble_eq_true rfl⟩) (wrL_S hN hP hK hD hSt hE hS hA) rfl rfl hl.1 rfl (lv_room (Nat.le_of_ble_eq_true rfl)) dL_law_1446 ⟨by show _ ≤ 603072; omega, by show _ ≤ 7219306; omega⟩) hD hS hA (fun r9 z9 H locs hz hP hD hS => ?_)
  obtain ⟨u9, g9, d9⟩ := z9
  obtain ⟨hz1, hz2, hz3⟩ := hz
  have hz1 : r9 = nI (if n = 0 then 1 else 0) := hz1
  have hz2 : (if n = 0 then 1 else 0) = 0 → ∃ q9 : Int32, g9 0 = q9.toInt64 ∧ q9 = nI (n - 1) ∧ u9.2.2.2.1 = nI (n - 1) ∧ u9.2.2.2.2.1 = nI 0 ∧ u9.2.2.2.2.2.2 = u.2.2.2.2.2.2 ∧ (∀ k, k < 72 → nw u9 k = nwB u (u.2.2.2.2.2.2 (n - 1)) k) ∧ (∀ j, j < 9 → u9.2.1 24 j = u.2.1 (17 + 8 * u.2.2.2.2.2.2 (n - 1) + 7) j) ∧ (∀ c, 1 ≤ c → c < 5 → nwB u9 c = nwB u c ∧ u9.2.1 (17 + 8 * c + 7) = u.2.1 (17 + 8 * c + 7)) := hz2
  have hz3 : (if n = 0 then 1 else 0) ≠ 0 → frP u u9 := hz3
  have hP : va_P dd vwCl (wM cy am mv ++ wY cy ad o (u9, g9, d9)) H := wT_M hP
  have hD : va_D (lA s) (wM cy am mv ++ wY cy ad o (u9, g9, d9)) := wT_MD hD
  refine lv_istore (lv' := [(6, .int r9), (5, .int (nI i)), (0, .ref b), (1, .ref (ad 0)), (2, .ref (am 0)), (3, .ref o.1), (4, .ref o.2)]) hx hb dL_law_1449 hl (by decide) rfl (fun ls hl => ?_)
  refine lv_aload_n hx hb dL_law_1451 rfl (lv_at hl 4 rfl) ?_
  refine wc_calli (va_runV (As := []) (rest := []) ⟨hx, hb, hml, hown, hts⟩ (c_X3_undo l dd cy am (wY cy ad o (u9, g9, d9)) mv _ n hn hk) (cwV 0 hts gL_law_X3_undo rfl rfl rfl hd_X3_undo ⟨Nat.le_of_ble_eq_true rfl, Nat.le_of_ble_eq_true rfl⟩) (wrW_V hP hK hD (wM_0 cy am mv (wY cy ad o (u9, g9, d9))) rfl) rfl rfl hl.1 rfl (lv_room (Nat.le_of_ble_eq_true rfl)) dL_law_1452 ⟨by show _ ≤ 603072; omega, by show _ ≤ 7219306; omega⟩) hD hS hA (fun r8 mv9 H locs hw hP hD hS => ?_)
  have hw : mv9.2.2.2.2.1 = nI (if n = 0 then 1 else 0) ∧ (n = 0 → mv9.1 = mv.1 ∧ mv9.2.1 = mv.2.1 ∧ mv9.2.2.2.1 = mv.2.2.2.1) ∧ (n ≠ 0 → r8 = nI (n - 1) ∧ mv9.2.2.2.1 = nI (n - 1) ∧ mv9.1 3 = mv.1 3 ∧ mv9.2.1 4 = mv.2.1 4 ∧ (∀ j, j < 72 → mv9.1 1 j = mv.1 3 (72 * (n - 1) + j)) ∧ ∀ j, j < 9 → mv9.2.1 2 j = mv.2.1 4 (9 * (n - 1) + j)) := hw
  try rw [lsM_N] at hw
  try rw [e1] at hw
  try rw [e2] at hw
  refine lv_istore (lv' := [(7, .int r8), (6, .int r9), (5, .int (nI i)), (0, .ref b), (1, .ref (ad 0)), (2, .ref (am 0)), (3, .ref o.1), (4, .ref o.2)]) hx hb dL_law_1455 hl (by decide) rfl (fun ls hl => ?_)
  refine lv_aload_n hx hb dL_law_1457 rfl (lv_at hl 5 rfl) ?_
  refine vp_callSi (va_runV (As := []) (rest := []) ⟨hx, hb, hml, hown, hts⟩ (c_X3_thrown l dd cy am (wY cy ad o (u9, g9, d9)) mv9) (cwV 0 hts gL_law_X3_thrown rfl rfl rfl hd_X3_thrown ⟨Nat.le_of_ble_eq_true rfl, Nat.le_of_ble_eq_true rfl⟩) (rdW_V hP hK (wM_0 cy am mv9 (wY cy ad o (u9, g9, d9))) rfl) rfl rfl hl.1 rfl (lv_room (Nat.le_of_ble_eq_true rfl)) dL_law_1458 ⟨by show _ ≤ 603072; omega, by show _ ≤ 7219306; omega⟩).run (fun r7 hr7 => ?_)
  have hq7 : r7 = r9 := by rw [hr7, hz1]; exact hw.1
  refine lv_iload hx hb dL_law_1461 (lv_at hl 1 rfl) ?_
  refine lv_icmp_eq (tgt := 1468) hx hb dL_law_1463 (by decide) (fun _ => ?_) (fun c1 => (by first | exact absurd hq7 c1 | exact absurd c1 hq7))
  refine lv_iload hx hb dL_law_1468 (lv_at hl 1 rfl) ?_
  refine lv_if_ne (tgt := 1485) hx hb dL_law_1470 (by decide) (fun cK => ?_) (fun cK => ?_)
  · have h0 : ¬ (if n = 0 then 1 else 0) = 0 := fun q => cK (by rw [hz1, q]; rfl)
    refine lv_goto (tgt := 1502) hx hb dL_law_1485 (by decide) ?_
    have hn0 : n = 0 := by by_cases q : n = 0; exact q; exact absurd (if_neg q) h0
    refine W.widen (k := cells + 4) (n := slots + 24) (by omega) (by omega) ?_
    exact kk n u9 mv9 g9 d9 H locs ls (tie_mono (tie_fr hT (hz3 h0) (hw.2.1 hn0).1 (hw.2.1 hn0).2.1 (hw.2.1 hn0).2.2) (by omega)) (wT_L hP) (wT_LD hD) hS (lv_sub hl [2, 3, 4, 5, 6, 7] rfl)
  · have h3 : (if n = 0 then 1 else 0) ≤ 3 := by (repeat' split) <;> decide
    have h0 : (if n = 0 then 1 else 0) = 0 := nI_z h3 (by rw [← hz1]; exact cK)
    have hn0 : n ≠ 0 := fun q => by rw [if_pos q] at h0; cases h0
    obtain ⟨q9, hq1, k1, k2, k3, k4, k5, k6, k7⟩ := hz2 h0
    obtain ⟨m1, m2, m3, m4, m5, m6⟩ := hw.2.2 hn0
    have hv9 : g9 0 = r8.toInt64 := by rw [hq1, k1, m1]
    refine lv_aload_n hx hb dL_law_1473 rfl (lv_at hl 6 rfl) ?_
    refine lv_iconst (v := nI 0) hx hb dL_law_1474 (by decide) ?_
    refine wa_lald hx hb hK hP (wY_69 cy ad am o mv9 u9 g9 d9) (t0 := 1) rfl (i := 0) (by decide) (by decide) dL_law_1475 ?_
    refine lv_iload hx hb dL_law_1476 (lv_at hl 0 rfl) ?_
    refine lv_i2l hx hb dL_law_1478 rfl ?_
    refine wl_eq (tgt := 1485) hx hb dL_law_1479 dL_law_1480 (by decide) (fun _ => ?_) (fun c2 => (by first | exact absurd hv9 c2 | exact absurd c2 hv9))
    refine lv_goto (tgt := 1502) hx hb dL_law_1485 (by decide) ?_
    obtain ⟨t1, t2, t3⟩ := tie_un hT hn0 k2 k3 k4 k5 k6 k7 m2 m3 m4 m5 m6
    obtain ⟨hP, hD⟩ := ms1_w (u := u9) t2 t3 hP hD
    refine W.widen (k := cells + 4) (n := slots + 24) (by omega) (by omega) ?_
    exact kk (n - 1) u9 (ms1 u9 mv9) g9 d9 H locs ls (tie_mono t1 (by omega)) (wT_L hP) (wT_LD hD) hS (lv_sub hl [2, 3, 4, 5, 6, 7] rfl)
set_option maxHeartbeats 4000000 in
set_option maxRecDepth 100000 in
/-- the law: digest -/
theorem lc_digest {p : Program} {l : Launch} {e : Env} {s : State} {m : MethodId} {below : List Frame} {meth : Method} {c : Code} {Q : State → Prop} {dd : va_G} {cy : Nat → ClassId} {ad am : Nat → Nat} {tt : Nat × Nat} {N : Nat → Nat} {o : Nat × Nat} {b L : Nat} {xs : Nat → Int32} (hlt : l.stackTraces = false) (C0 : lcx p s m c dd cy tt N b L xs) {i n bb cells slots : Nat} {u : CS} {mv : MS} {g : Nat → Int64} {d : Nat → UInt64} {H : Heap} {locs : List Loc} {ls : Array Slot} (hi : i + 4 ≤ L) (hL : L ≤ 2048) (hT : Tie n bb u mv) (hb0 : 1000 ≤ bb) (hb1 : bb + 900000 ≤ 2 ^ 40) (hce0 : cells + 4 ≤ 603072) (hsl0 : slots + 24 ≤ 7219306) (hP : va_P dd vwCl (wL cy ad o (wM cy am mv) (u, g, d)) H) (hD : va_D (lA s) (wL cy ad o (wM cy am mv) (u, g, d))) (hS : va_S (lA s) s.heap H locs) (hl : lv_has ls 9 [(5, .int (nI i)), (0, .ref b), (1, .ref (ad 0)), (2, .ref (am 0)), (3, .ref o.1), (4, .ref o.2)])
    (kk : ∀ (n : Nat) (u : CS) (mv : MS) (g : Nat → Int64) (d : Nat → UInt64) (H : Heap) (locs : List Loc) (ls : Array Slot), Tie n (bb + 900000) u mv → va_P dd vwCl (wL cy ad o (wM cy am mv) (u, g, d)) H → va_D (lA s) (wL cy ad o (wM cy am mv) (u, g, d)) → va_S (lA s) s.heap H locs → lv_has ls 9 [(5, .int (nI i)), (0, .ref b), (1, .ref (ad 0)), (2, .ref (am 0)), (3, .ref o.1), (4, .ref o.2)] → W p l e room_1 s m #[Value.ref b] below meth c H locs (cells + 4) (slots + 24) Q (F0 m 1502 ls [])) : W p l e room_1 s m #[Value.ref b] below meth c H locs cells slots Q (F0 m 1488 ls []) := by
  obtain ⟨hx, hb, hml, hown, hts, hX, hbl, hK, hSt, hE, hN⟩ := C0
  have hA : ∀ q : Nat, s.heap.size ≤ q → lA s q := fun _ h => h
  have hbA : ¬ lA s b := Nat.not_le.mpr hbl
  obtain ⟨hn, hc, hk, hok, hsI, e1, e2, hrg, hB, hsv⟩ := id hT
  refine lv_aload_n hx hb dL_law_1488 rfl (lv_at hl 2 rfl) ?_
  have hP : va_P dd vwCl (wC cy ad u ++ xL cy o g d (wM cy am mv)) H := hP
  have hD : va_D (lA s) (wC cy ad u ++ xL cy o g d (wM cy am mv)) := hD
  refine wc_calll (va_runV (As := []) (rest := []) ⟨hx, hb, hml, hown, hts⟩ (c_X2_digest l dd cy ad (xL cy o g d (wM cy am mv)) tt u _ hrg hsI bb hB) (cwV 0 hts gL_law_X2_digest rfl rfl rfl hd_X2_digest ⟨Nat.le_of_ble_eq_true rfl, Nat.le_of_ble_eq_true rfl⟩) (wrC_V hP hK hD hSt hS hA (wC_0 cy ad u (xL cy o g d (wM cy am mv))) rfl) rfl rfl hl.1 rfl (lv_room (Nat.le_of_ble_eq_true rfl)) dL_law_1489 ⟨by show _ ≤ 603072; omega, by show _ ≤ 7219306; omega⟩) hD hS hA (fun r9 u9 H locs hz hP hD hS => ?_)
  have hP : va_P dd vwCl (wL cy ad o (wM cy am mv) (u9, g, d)) H := hP
  have hD : va_D (lA s) (wL cy ad o (wM cy am mv) (u9, g, d)) := hD
  have hP : va_P dd vwCl (wM cy am mv ++ wY cy ad o (u9, g, d)) H := wT_M hP
  have hD : va_D (lA s) (wM cy am mv ++ wY cy ad o (u9, g, d)) := wT_MD hD
  refine lv_aload_n hx hb dL_law_1492 rfl (lv_at hl 3 rfl) ?_
  refine wc_calll (va_runV (As := []) (rest := [.long r9]) ⟨hx, hb, hml, hown, hts⟩ (c_X3_digest l dd cy am (wY cy ad o (u9, g, d)) mv _ (by rw [e1]; exact GM_rg hrg) bb (by rw [e2]; exact hB) (by omega)) (cwV 0 hts gL_law_X3_digest rfl rfl rfl hd_X3_digest ⟨Nat.le_of_ble_eq_true rfl, Nat.le_of_ble_eq_true rfl⟩) (wrW_V hP hK hD (wM_0 cy am mv (wY cy ad o (u9, g, d))) rfl) rfl rfl hl.1 rfl (lv_room (Nat.le_of_ble_eq_true rfl)) dL_law_1493 ⟨by show _ ≤ 603072; omega, by show _ ≤ 7219306; omega⟩) hD hS hA (fun r8 mv9 H locs hw hP hD hS => ?_)
  have hw : r8 = dgF (mv.1 1) (mv.2.1 2) (lsM mv) mv.2.2.2.1 ∧ mv9.2.2.2.2.1 = nI 0 ∧ mv9.1 = mv.1 ∧ mv9.2.1 = mv.2.1 ∧ mv9.2.2.2.1 = mv.2.2.2.1 := hw
  try rw [lsM_N] at hw
  try rw [e1] at hw
  try rw [e2] at hw
  have hq8 : r9 = r8 := by rw [hz.1, hc.symm.trans hk]; exact hw.1.symm
  refine wl_eq (tgt := 1502) hx hb dL_law_1496 dL_law_1497 (by decide) (fun _ => ?_) (fun c1 => (by first | exact absurd hq8 c1 | exact absurd c1 hq8))
  refine W.widen (k := cells + 4) (n := slots + 24) (by omega) (by omega) ?_
  exact kk n u9 mv9 g d H locs ls (tie_mono (tie_fr hT hz.2 hw.2.2.1 hw.2.2.2.1 hw.2.2.2.2) (by omega)) (wT_L hP) (wT_LD hD) hS (lv_sub hl [0, 1, 2, 3, 4, 5] rfl)

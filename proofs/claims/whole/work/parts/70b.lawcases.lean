set_option maxHeartbeats 4000000 in
set_option maxRecDepth 100000 in
/-- the law: setLink -/
theorem lc_setLink {p : Program} {l : Launch} {e : Env} {s : State} {m : MethodId} {below : List Frame} {meth : Method} {c : Code} {Q : State → Prop} {dd : va_G} {cy : Nat → ClassId} {ad am : Nat → Nat} {tt : Nat × Nat} {N : Nat → Nat} {o : Nat × Nat} {b L : Nat} {xs : Nat → Int32} (hlt : l.stackTraces = false) (C0 : lcx p s m c dd cy tt N b L xs) {i n bb cells slots : Nat} {u : CS} {mv : MS} {g : Nat → Int64} {d : Nat → UInt64} {H : Heap} {locs : List Loc} {ls : Array Slot} (hi : i + 4 ≤ L) (hL : L ≤ 2048) (hT : Tie n bb u mv) (hb0 : 1000 ≤ bb) (hb1 : bb + 900000 ≤ 2 ^ 40) (hce0 : cells + 4 ≤ 603072) (hsl0 : slots + 24 ≤ 7219306) (hP : va_P dd vwCl (wL cy ad o (wM cy am mv) (u, g, d)) H) (hD : va_D (lA s) (wL cy ad o (wM cy am mv) (u, g, d))) (hS : va_S (lA s) s.heap H locs) (hl : lv_has ls 9 [(5, .int (nI i)), (0, .ref b), (1, .ref (ad 0)), (2, .ref (am 0)), (3, .ref o.1), (4, .ref o.2)])
    (kk : ∀ (n : Nat) (u : CS) (mv : MS) (g : Nat → Int64) (d : Nat → UInt64) (H : Heap) (locs : List Loc) (ls : Array Slot), Tie n (bb + 900000) u mv → va_P dd vwCl (wL cy ad o (wM cy am mv) (u, g, d)) H → va_D (lA s) (wL cy ad o (wM cy am mv) (u, g, d)) → va_S (lA s) s.heap H locs → lv_has ls 9 [(5, .int (nI i)), (0, .ref b), (1, .ref (ad 0)), (2, .ref (am 0)), (3, .ref o.1), (4, .ref o.2)] → W p l e room_1 s m #[Value.ref b] below meth c H locs (cells + 4) (slots + 24) Q (F0 m 1502 ls [])) : W p l e room_1 s m #[Value.ref b] below meth c H locs cells slots Q (F0 m 152 ls []) := by
  obtain ⟨hx, hb, hml, hown, hts, hX, hbl, hK, hSt, hE, hN⟩ := C0
  have hA : ∀ q : Nat, s.heap.size ≤ q → lA s q := fun _ h => h
  have hbA : ¬ lA s b := Nat.not_le.mpr hbl
  obtain ⟨hn, hc, hk, hok, hsI, e1, e2, hrg, hB, hsv⟩ := id hT
  refine lv_aload_n hx hb dL_law_152 rfl (lv_at hl 2 rfl) ?_
  refine lv_aload_n hx hb dL_law_153 rfl (lv_at hl 1 rfl) ?_
  refine lv_iload hx hb dL_law_154 (lv_at hl 0 rfl) ?_
  refine lv_iconst (v := nI 1) hx hb dL_law_156 (by decide) ?_
  refine wn_iadd hx hb dL_law_157 ?_
  refine wa_sld hx hb hX hbl hbA hS (i := i + 1) (by omega) (by omega) dL_law_158 ?_
  refine lv_aload_n hx hb dL_law_159 rfl (lv_at hl 1 rfl) ?_
  refine lv_iload hx hb dL_law_160 (lv_at hl 0 rfl) ?_
  refine lv_iconst (v := nI 2) hx hb dL_law_162 (by decide) ?_
  refine wn_iadd hx hb dL_law_163 ?_
  refine wa_sld hx hb hX hbl hbA hS (i := i + 2) (by omega) (by omega) dL_law_164 ?_
  refine lv_aload_n hx hb dL_law_165 rfl (lv_at hl 4 rfl) ?_
  refine wc_calli (vx_runSW (As := [.ref (ad 0), .int (xs (i + 1)), .int (xs (i + 2)), .ref o.1]) (rest := []) ⟨hx, hb, hml, hown, hts⟩ (c_L_setLink l hlt dd cy ad (wM cy am mv) tt N o u g d _ n hn hok hc hsI (xs (i + 1)) (xs (i + 2))) (vx_cwSW 4 hts gL_law_L_setLink rfl rfl rfl hd_L_setLink ⟨Nat.le_of_ble_eq_true rfl, Nat.le_of_ble_eq_true rfl⟩) (wrL_S hN hP hK hD hSt hE hS hA) rfl rfl hl.1 rfl (lv_room (Nat.le_of_ble_eq_true rfl)) dL_law_166 ⟨by show _ ≤ 603072; omega, by show _ ≤ 7219306; omega⟩) hD hS hA (fun r9 z9 H locs hz hP hD hS => ?_)
  obtain ⟨u9, g9, d9⟩ := z9
  obtain ⟨hz1, hz2, hz3⟩ := hz
  have hz1 : r9 = nI (if inR (xs (i + 1)) (nI 0) (nI 23) then (if inR (xs (i + 2)) (nI 0) (nI 2) then 0 else 2) else 1) := hz1
  have hz2 : (if inR (xs (i + 1)) (nI 0) (nI 23) then (if inR (xs (i + 2)) (nI 0) (nI 2) then 0 else 2) else 1) = 0 → ∃ q9 : Int32, g9 0 = q9.toInt64 ∧ q9 = nw u (0 + (xs (i + 1)).toNatClampNeg) ∧ svN n u u9 ∧ nw u9 = upd (nw u) (0 + (xs (i + 1)).toNatClampNeg) (xs (i + 2)) ∧ u9.2.1 24 = u.2.1 24 := hz2
  have hz3 : (if inR (xs (i + 1)) (nI 0) (nI 23) then (if inR (xs (i + 2)) (nI 0) (nI 2) then 0 else 2) else 1) ≠ 0 → frP u u9 := hz3
  have hP : va_P dd vwCl (wM cy am mv ++ wY cy ad o (u9, g9, d9)) H := wT_M hP
  have hD : va_D (lA s) (wM cy am mv ++ wY cy ad o (u9, g9, d9)) := wT_MD hD
  refine lv_istore (lv' := [(6, .int r9), (5, .int (nI i)), (0, .ref b), (1, .ref (ad 0)), (2, .ref (am 0)), (3, .ref o.1), (4, .ref o.2)]) hx hb dL_law_169 hl (by decide) rfl (fun ls hl => ?_)
  refine lv_aload_n hx hb dL_law_171 rfl (lv_at hl 4 rfl) ?_
  refine lv_aload_n hx hb dL_law_172 rfl (lv_at hl 2 rfl) ?_
  refine lv_iload hx hb dL_law_173 (lv_at hl 1 rfl) ?_
  refine lv_iconst (v := nI 1) hx hb dL_law_175 (by decide) ?_
  refine wn_iadd hx hb dL_law_176 ?_
  refine wa_sld hx hb hX hbl hbA hS (i := i + 1) (by omega) (by omega) dL_law_177 ?_
  refine lv_aload_n hx hb dL_law_178 rfl (lv_at hl 2 rfl) ?_
  refine lv_iload hx hb dL_law_179 (lv_at hl 1 rfl) ?_
  refine lv_iconst (v := nI 2) hx hb dL_law_181 (by decide) ?_
  refine wn_iadd hx hb dL_law_182 ?_
  refine wa_sld hx hb hX hbl hbA hS (i := i + 2) (by omega) (by omega) dL_law_183 ?_
  refine wc_calli (va_runV (As := [.int (xs (i + 1)), .int (xs (i + 2))]) (rest := []) ⟨hx, hb, hml, hown, hts⟩ (c_X3_setLink l dd cy am (wY cy ad o (u9, g9, d9)) mv _ n hn hk (xs (i + 1)) (xs (i + 2))) (cwV 2 hts gL_law_X3_setLink rfl rfl rfl hd_X3_setLink ⟨Nat.le_of_ble_eq_true rfl, Nat.le_of_ble_eq_true rfl⟩) (wrW_V hP hK hD (wM_0 cy am mv (wY cy ad o (u9, g9, d9))) rfl) rfl rfl hl.1 rfl (lv_room (Nat.le_of_ble_eq_true rfl)) dL_law_184 ⟨by show _ ≤ 603072; omega, by show _ ≤ 7219306; omega⟩) hD hS hA (fun r8 mv9 H locs hw hP hD hS => ?_)
  have hw : mv9.2.2.2.2.1 = nI (if inR (xs (i + 1)) (nI 0) (nI 23) then (if inR (xs (i + 2)) (nI 0) (nI 2) then 0 else 2) else 1) ∧ ((if inR (xs (i + 1)) (nI 0) (nI 23) then (if inR (xs (i + 2)) (nI 0) (nI 2) then 0 else 2) else 1) ≠ 0 → mv9.1 = mv.1 ∧ mv9.2.1 = mv.2.1 ∧ mv9.2.2.2.1 = mv.2.2.2.1) ∧ ((if inR (xs (i + 1)) (nI 0) (nI 23) then (if inR (xs (i + 2)) (nI 0) (nI 2) then 0 else 2) else 1) = 0 → r8 = mv.1 1 (0 + (xs (i + 1)).toNatClampNeg) ∧ svP n mv mv9 ∧ mv9.1 1 = upd (mv.1 1) (0 + (xs (i + 1)).toNatClampNeg) (xs (i + 2)) ∧ mv9.2.1 2 = mv.2.1 2) := hw
  try rw [lsM_N] at hw
  try rw [e1] at hw
  try rw [e2] at hw
  refine lv_istore (lv' := [(7, .int r8), (6, .int r9), (5, .int (nI i)), (0, .ref b), (1, .ref (ad 0)), (2, .ref (am 0)), (3, .ref o.1), (4, .ref o.2)]) hx hb dL_law_187 hl (by decide) rfl (fun ls hl => ?_)
  refine lv_aload_n hx hb dL_law_189 rfl (lv_at hl 5 rfl) ?_
  refine vp_callSi (va_runV (As := []) (rest := []) ⟨hx, hb, hml, hown, hts⟩ (c_X3_thrown l dd cy am (wY cy ad o (u9, g9, d9)) mv9) (cwV 0 hts gL_law_X3_thrown rfl rfl rfl hd_X3_thrown ⟨Nat.le_of_ble_eq_true rfl, Nat.le_of_ble_eq_true rfl⟩) (rdW_V hP hK (wM_0 cy am mv9 (wY cy ad o (u9, g9, d9))) rfl) rfl rfl hl.1 rfl (lv_room (Nat.le_of_ble_eq_true rfl)) dL_law_190 ⟨by show _ ≤ 603072; omega, by show _ ≤ 7219306; omega⟩).run (fun r7 hr7 => ?_)
  have hq7 : r7 = r9 := by rw [hr7, hz1]; exact hw.1
  refine lv_iload hx hb dL_law_193 (lv_at hl 1 rfl) ?_
  refine lv_icmp_eq (tgt := 200) hx hb dL_law_195 (by decide) (fun _ => ?_) (fun c1 => (by first | exact absurd hq7 c1 | exact absurd c1 hq7))
  refine lv_iload hx hb dL_law_200 (lv_at hl 1 rfl) ?_
  refine lv_if_ne (tgt := 217) hx hb dL_law_202 (by decide) (fun cK => ?_) (fun cK => ?_)
  · have h0 : ¬ (if inR (xs (i + 1)) (nI 0) (nI 23) then (if inR (xs (i + 2)) (nI 0) (nI 2) then 0 else 2) else 1) = 0 := fun q => cK (by rw [hz1, q]; rfl)
    refine lv_goto (tgt := 1502) hx hb dL_law_217 (by decide) ?_
    refine W.widen (k := cells + 4) (n := slots + 24) (by omega) (by omega) ?_
    exact kk n u9 mv9 g9 d9 H locs ls (tie_mono (tie_fr hT (hz3 h0) (hw.2.1 h0).1 (hw.2.1 h0).2.1 (hw.2.1 h0).2.2) (by omega)) (wT_L hP) (wT_LD hD) hS (lv_sub hl [2, 3, 4, 5, 6, 7] rfl)
  · have h3 : (if inR (xs (i + 1)) (nI 0) (nI 23) then (if inR (xs (i + 2)) (nI 0) (nI 2) then 0 else 2) else 1) ≤ 3 := by (repeat' split) <;> decide
    have h0 : (if inR (xs (i + 1)) (nI 0) (nI 23) then (if inR (xs (i + 2)) (nI 0) (nI 2) then 0 else 2) else 1) = 0 := nI_z h3 (by rw [← hz1]; exact cK)
    obtain ⟨q9, hq1, k1, k2, k3, k4⟩ := hz2 h0
    obtain ⟨m1, m2, m3, m4⟩ := hw.2.2 h0
    have hv9 : g9 0 = r8.toInt64 := by rw [hq1, k1, m1]
    refine lv_aload_n hx hb dL_law_205 rfl (lv_at hl 6 rfl) ?_
    refine lv_iconst (v := nI 0) hx hb dL_law_206 (by decide) ?_
    refine wa_lald hx hb hK hP (wY_69 cy ad am o mv9 u9 g9 d9) (t0 := 1) rfl (i := 0) (by decide) (by decide) dL_law_207 ?_
    refine lv_iload hx hb dL_law_208 (lv_at hl 0 rfl) ?_
    refine lv_i2l hx hb dL_law_210 rfl ?_
    refine wl_eq (tgt := 217) hx hb dL_law_211 dL_law_212 (by decide) (fun _ => ?_) (fun c2 => (by first | exact absurd hv9 c2 | exact absurd c2 hv9))
    refine lv_goto (tgt := 1502) hx hb dL_law_217 (by decide) ?_
    obtain ⟨j1, j2⟩ := th2 h0
    have hix := inR_ix (by decide) j1
    have hva := inR_rg (by decide) j2
    refine W.widen (k := cells + 4) (n := slots + 24) (by omega) (by omega) ?_
    exact kk (kpM n + 1) u9 mv9 g9 d9 H locs ls (tie_sv (b2 := bb + 900000) hT k2 m2 (by rw [m3, k3]) (by rw [m4, k4]) (by rw [k3]; exact rgM_u hrg (fun h9 => by omega) (fun h9 => by omega)) (fun j hj => by rw [k4]; exact dB_mono (hB j hj) (by omega)) (by omega)) (wT_L hP) (wT_LD hD) hS (lv_sub hl [2, 3, 4, 5, 6, 7] rfl)
set_option maxHeartbeats 4000000 in
set_option maxRecDepth 100000 in
/-- the law: setEdge -/
theorem lc_setEdge {p : Program} {l : Launch} {e : Env} {s : State} {m : MethodId} {below : List Frame} {meth : Method} {c : Code} {Q : State → Prop} {dd : va_G} {cy : Nat → ClassId} {ad am : Nat → Nat} {tt : Nat × Nat} {N : Nat → Nat} {o : Nat × Nat} {b L : Nat} {xs : Nat → Int32} (hlt : l.stackTraces = false) (C0 : lcx p s m c dd cy tt N b L xs) {i n bb cells slots : Nat} {u : CS} {mv : MS} {g : Nat → Int64} {d : Nat → UInt64} {H : Heap} {locs : List Loc} {ls : Array Slot} (hi : i + 4 ≤ L) (hL : L ≤ 2048) (hT : Tie n bb u mv) (hb0 : 1000 ≤ bb) (hb1 : bb + 900000 ≤ 2 ^ 40) (hce0 : cells + 4 ≤ 603072) (hsl0 : slots + 24 ≤ 7219306) (hP : va_P dd vwCl (wL cy ad o (wM cy am mv) (u, g, d)) H) (hD : va_D (lA s) (wL cy ad o (wM cy am mv) (u, g, d))) (hS : va_S (lA s) s.heap H locs) (hl : lv_has ls 9 [(5, .int (nI i)), (0, .ref b), (1, .ref (ad 0)), (2, .ref (am 0)), (3, .ref o.1), (4, .ref o.2)])
    (kk : ∀ (n : Nat) (u : CS) (mv : MS) (g : Nat → Int64) (d : Nat → UInt64) (H : Heap) (locs : List Loc) (ls : Array Slot), Tie n (bb + 900000) u mv → va_P dd vwCl (wL cy ad o (wM cy am mv) (u, g, d)) H → va_D (lA s) (wL cy ad o (wM cy am mv) (u, g, d)) → va_S (lA s) s.heap H locs → lv_has ls 9 [(5, .int (nI i)), (0, .ref b), (1, .ref (ad 0)), (2, .ref (am 0)), (3, .ref o.1), (4, .ref o.2)] → W p l e room_1 s m #[Value.ref b] below meth c H locs (cells + 4) (slots + 24) Q (F0 m 1502 ls [])) : W p l e room_1 s m #[Value.ref b] below meth c H locs cells slots Q (F0 m 220 ls []) := by
  obtain ⟨hx, hb, hml, hown, hts, hX, hbl, hK, hSt, hE, hN⟩ := C0
  have hA : ∀ q : Nat, s.heap.size ≤ q → lA s q := fun _ h => h
  have hbA : ¬ lA s b := Nat.not_le.mpr hbl
  obtain ⟨hn, hc, hk, hok, hsI, e1, e2, hrg, hB, hsv⟩ := id hT
  refine lv_aload_n hx hb dL_law_220 rfl (lv_at hl 2 rfl) ?_
  refine lv_aload_n hx hb dL_law_221 rfl (lv_at hl 1 rfl) ?_
  refine lv_iload hx hb dL_law_222 (lv_at hl 0 rfl) ?_
  refine lv_iconst (v := nI 1) hx hb dL_law_224 (by decide) ?_
  refine wn_iadd hx hb dL_law_225 ?_
  refine wa_sld hx hb hX hbl hbA hS (i := i + 1) (by omega) (by omega) dL_law_226 ?_
  refine lv_aload_n hx hb dL_law_227 rfl (lv_at hl 1 rfl) ?_
  refine lv_iload hx hb dL_law_228 (lv_at hl 0 rfl) ?_
  refine lv_iconst (v := nI 2) hx hb dL_law_230 (by decide) ?_
  refine wn_iadd hx hb dL_law_231 ?_
  refine wa_sld hx hb hX hbl hbA hS (i := i + 2) (by omega) (by omega) dL_law_232 ?_
  refine lv_aload_n hx hb dL_law_233 rfl (lv_at hl 4 rfl) ?_
  refine wc_calli (vx_runSW (As := [.ref (ad 0), .int (xs (i + 1)), .int (xs (i + 2)), .ref o.1]) (rest := []) ⟨hx, hb, hml, hown, hts⟩ (c_L_setEdge l hlt dd cy ad (wM cy am mv) tt N o u g d _ n hn hok hc hsI (xs (i + 1)) (xs (i + 2))) (vx_cwSW 4 hts gL_law_L_setEdge rfl rfl rfl hd_L_setEdge ⟨Nat.le_of_ble_eq_true rfl, Nat.le_of_ble_eq_true rfl⟩) (wrL_S hN hP hK hD hSt hE hS hA) rfl rfl hl.1 rfl (lv_room (Nat.le_of_ble_eq_true rfl)) dL_law_234 ⟨by show _ ≤ 603072; omega, by show _ ≤ 7219306; omega⟩) hD hS hA (fun r9 z9 H locs hz hP hD hS => ?_)
  obtain ⟨u9, g9, d9⟩ := z9
  obtain ⟨hz1, hz2, hz3⟩ := hz
  have hz1 : r9 = nI (if inR (xs (i + 1)) (nI 0) (nI 11) then (if inR (xs (i + 2)) (nI 0) (nI 1000) then 0 else 2) else 1) := hz1
  have hz2 : (if inR (xs (i + 1)) (nI 0) (nI 11) then (if inR (xs (i + 2)) (nI 0) (nI 1000) then 0 else 2) else 1) = 0 → ∃ q9 : Int32, g9 0 = q9.toInt64 ∧ q9 = nw u (24 + (xs (i + 1)).toNatClampNeg) ∧ svN n u u9 ∧ nw u9 = upd (nw u) (24 + (xs (i + 1)).toNatClampNeg) (xs (i + 2)) ∧ u9.2.1 24 = u.2.1 24 := hz2
  have hz3 : (if inR (xs (i + 1)) (nI 0) (nI 11) then (if inR (xs (i + 2)) (nI 0) (nI 1000) then 0 else 2) else 1) ≠ 0 → frP u u9 := hz3
  have hP : va_P dd vwCl (wM cy am mv ++ wY cy ad o (u9, g9, d9)) H := wT_M hP
  have hD : va_D (lA s) (wM cy am mv ++ wY cy ad o (u9, g9, d9)) := wT_MD hD
  refine lv_istore (lv' := [(6, .int r9), (5, .int (nI i)), (0, .ref b), (1, .ref (ad 0)), (2, .ref (am 0)), (3, .ref o.1), (4, .ref o.2)]) hx hb dL_law_237 hl (by decide) rfl (fun ls hl => ?_)
  refine lv_aload_n hx hb dL_law_239 rfl (lv_at hl 4 rfl) ?_
  refine lv_aload_n hx hb dL_law_240 rfl (lv_at hl 2 rfl) ?_
  refine lv_iload hx hb dL_law_241 (lv_at hl 1 rfl) ?_
  refine lv_iconst (v := nI 1) hx hb dL_law_243 (by decide) ?_
  refine wn_iadd hx hb dL_law_244 ?_
  refine wa_sld hx hb hX hbl hbA hS (i := i + 1) (by omega) (by omega) dL_law_245 ?_
  refine lv_aload_n hx hb dL_law_246 rfl (lv_at hl 2 rfl) ?_
  refine lv_iload hx hb dL_law_247 (lv_at hl 1 rfl) ?_
  refine lv_iconst (v := nI 2) hx hb dL_law_249 (by decide) ?_
  refine wn_iadd hx hb dL_law_250 ?_
  refine wa_sld hx hb hX hbl hbA hS (i := i + 2) (by omega) (by omega) dL_law_251 ?_
  refine wc_calli (va_runV (As := [.int (xs (i + 1)), .int (xs (i + 2))]) (rest := []) ⟨hx, hb, hml, hown, hts⟩ (c_X3_setEdge l dd cy am (wY cy ad o (u9, g9, d9)) mv _ n hn hk (xs (i + 1)) (xs (i + 2))) (cwV 2 hts gL_law_X3_setEdge rfl rfl rfl hd_X3_setEdge ⟨Nat.le_of_ble_eq_true rfl, Nat.le_of_ble_eq_true rfl⟩) (wrW_V hP hK hD (wM_0 cy am mv (wY cy ad o (u9, g9, d9))) rfl) rfl rfl hl.1 rfl (lv_room (Nat.le_of_ble_eq_true rfl)) dL_law_252 ⟨by show _ ≤ 603072; omega, by show _ ≤ 7219306; omega⟩) hD hS hA (fun r8 mv9 H locs hw hP hD hS => ?_)
  have hw : mv9.2.2.2.2.1 = nI (if inR (xs (i + 1)) (nI 0) (nI 11) then (if inR (xs (i + 2)) (nI 0) (nI 1000) then 0 else 2) else 1) ∧ ((if inR (xs (i + 1)) (nI 0) (nI 11) then (if inR (xs (i + 2)) (nI 0) (nI 1000) then 0 else 2) else 1) ≠ 0 → mv9.1 = mv.1 ∧ mv9.2.1 = mv.2.1 ∧ mv9.2.2.2.1 = mv.2.2.2.1) ∧ ((if inR (xs (i + 1)) (nI 0) (nI 11) then (if inR (xs (i + 2)) (nI 0) (nI 1000) then 0 else 2) else 1) = 0 → r8 = mv.1 1 (24 + (xs (i + 1)).toNatClampNeg) ∧ svP n mv mv9 ∧ mv9.1 1 = upd (mv.1 1) (24 + (xs (i + 1)).toNatClampNeg) (xs (i + 2)) ∧ mv9.2.1 2 = mv.2.1 2) := hw
  try rw [lsM_N] at hw
  try rw [e1] at hw
  try rw [e2] at hw
  refine lv_istore (lv' := [(7, .int r8), (6, .int r9), (5, .int (nI i)), (0, .ref b), (1, .ref (ad 0)), (2, .ref (am 0)), (3, .ref o.1), (4, .ref o.2)]) hx hb dL_law_255 hl (by decide) rfl (fun ls hl => ?_)
  refine lv_aload_n hx hb dL_law_257 rfl (lv_at hl 5 rfl) ?_
  refine vp_callSi (va_runV (As := []) (rest := []) ⟨hx, hb, hml, hown, hts⟩ (c_X3_thrown l dd cy am (wY cy ad o (u9, g9, d9)) mv9) (cwV 0 hts gL_law_X3_thrown rfl rfl rfl hd_X3_thrown ⟨Nat.le_of_ble_eq_true rfl, Nat.le_of_ble_eq_true rfl⟩) (rdW_V hP hK (wM_0 cy am mv9 (wY cy ad o (u9, g9, d9))) rfl) rfl rfl hl.1 rfl (lv_room (Nat.le_of_ble_eq_true rfl)) dL_law_258 ⟨by show _ ≤ 603072; omega, by show _ ≤ 7219306; omega⟩).run (fun r7 hr7 => ?_)
  have hq7 : r7 = r9 := by rw [hr7, hz1]; exact hw.1
  refine lv_iload hx hb dL_law_261 (lv_at hl 1 rfl) ?_
  refine lv_icmp_eq (tgt := 268) hx hb dL_law_263 (by decide) (fun _ => ?_) (fun c1 => (by first | exact absurd hq7 c1 | exact absurd c1 hq7))
  refine lv_iload hx hb dL_law_268 (lv_at hl 1 rfl) ?_
  refine lv_if_ne (tgt := 285) hx hb dL_law_270 (by decide) (fun cK => ?_) (fun cK => ?_)
  · have h0 : ¬ (if inR (xs (i + 1)) (nI 0) (nI 11) then (if inR (xs (i + 2)) (nI 0) (nI 1000) then 0 else 2) else 1) = 0 := fun q => cK (by rw [hz1, q]; rfl)
    refine lv_goto (tgt := 1502) hx hb dL_law_285 (by decide) ?_
    refine W.widen (k := cells + 4) (n := slots + 24) (by omega) (by omega) ?_
    exact kk n u9 mv9 g9 d9 H locs ls (tie_mono (tie_fr hT (hz3 h0) (hw.2.1 h0).1 (hw.2.1 h0).2.1 (hw.2.1 h0).2.2) (by omega)) (wT_L hP) (wT_LD hD) hS (lv_sub hl [2, 3, 4, 5, 6, 7] rfl)
  · have h3 : (if inR (xs (i + 1)) (nI 0) (nI 11) then (if inR (xs (i + 2)) (nI 0) (nI 1000) then 0 else 2) else 1) ≤ 3 := by (repeat' split) <;> decide
    have h0 : (if inR (xs (i + 1)) (nI 0) (nI 11) then (if inR (xs (i + 2)) (nI 0) (nI 1000) then 0 else 2) else 1) = 0 := nI_z h3 (by rw [← hz1]; exact cK)
    obtain ⟨q9, hq1, k1, k2, k3, k4⟩ := hz2 h0
    obtain ⟨m1, m2, m3, m4⟩ := hw.2.2 h0
    have hv9 : g9 0 = r8.toInt64 := by rw [hq1, k1, m1]
    refine lv_aload_n hx hb dL_law_273 rfl (lv_at hl 6 rfl) ?_
    refine lv_iconst (v := nI 0) hx hb dL_law_274 (by decide) ?_
    refine wa_lald hx hb hK hP (wY_69 cy ad am o mv9 u9 g9 d9) (t0 := 1) rfl (i := 0) (by decide) (by decide) dL_law_275 ?_
    refine lv_iload hx hb dL_law_276 (lv_at hl 0 rfl) ?_
    refine lv_i2l hx hb dL_law_278 rfl ?_
    refine wl_eq (tgt := 285) hx hb dL_law_279 dL_law_280 (by decide) (fun _ => ?_) (fun c2 => (by first | exact absurd hv9 c2 | exact absurd c2 hv9))
    refine lv_goto (tgt := 1502) hx hb dL_law_285 (by decide) ?_
    obtain ⟨j1, j2⟩ := th2 h0
    have hix := inR_ix (by decide) j1
    have hva := inR_rg (by decide) j2
    refine W.widen (k := cells + 4) (n := slots + 24) (by omega) (by omega) ?_
    exact kk (kpM n + 1) u9 mv9 g9 d9 H locs ls (tie_sv (b2 := bb + 900000) hT k2 m2 (by rw [m3, k3]) (by rw [m4, k4]) (by rw [k3]; exact rgM_u hrg (fun h9 => by omega) (fun h9 => by omega)) (fun j hj => by rw [k4]; exact dB_mono (hB j hj) (by omega)) (by omega)) (wT_L hP) (wT_LD hD) hS (lv_sub hl [2, 3, 4, 5, 6, 7] rfl)
set_option maxHeartbeats 4000000 in
set_option maxRecDepth 100000 in
/-- the law: setRecharge -/
theorem lc_setRecharge {p : Program} {l : Launch} {e : Env} {s : State} {m : MethodId} {below : List Frame} {meth : Method} {c : Code} {Q : State → Prop} {dd : va_G} {cy : Nat → ClassId} {ad am : Nat → Nat} {tt : Nat × Nat} {N : Nat → Nat} {o : Nat × Nat} {b L : Nat} {xs : Nat → Int32} (hlt : l.stackTraces = false) (C0 : lcx p s m c dd cy tt N b L xs) {i n bb cells slots : Nat} {u : CS} {mv : MS} {g : Nat → Int64} {d : Nat → UInt64} {H : Heap} {locs : List Loc} {ls : Array Slot} (hi : i + 4 ≤ L) (hL : L ≤ 2048) (hT : Tie n bb u mv) (hb0 : 1000 ≤ bb) (hb1 : bb + 900000 ≤ 2 ^ 40) (hce0 : cells + 4 ≤ 603072) (hsl0 : slots + 24 ≤ 7219306) (hP : va_P dd vwCl (wL cy ad o (wM cy am mv) (u, g, d)) H) (hD : va_D (lA s) (wL cy ad o (wM cy am mv) (u, g, d))) (hS : va_S (lA s) s.heap H locs) (hl : lv_has ls 9 [(5, .int (nI i)), (0, .ref b), (1, .ref (ad 0)), (2, .ref (am 0)), (3, .ref o.1), (4, .ref o.2)])
    (kk : ∀ (n : Nat) (u : CS) (mv : MS) (g : Nat → Int64) (d : Nat → UInt64) (H : Heap) (locs : List Loc) (ls : Array Slot), Tie n (bb + 900000) u mv → va_P dd vwCl (wL cy ad o (wM cy am mv) (u, g, d)) H → va_D (lA s) (wL cy ad o (wM cy am mv) (u, g, d)) → va_S (lA s) s.heap H locs → lv_has ls 9 [(5, .int (nI i)), (0, .ref b), (1, .ref (ad 0)), (2, .ref (am 0)), (3, .ref o.1), (4, .ref o.2)] → W p l e room_1 s m #[Value.ref b] below meth c H locs (cells + 4) (slots + 24) Q (F0 m 1502 ls [])) : W p l e room_1 s m #[Value.ref b] below meth c H locs cells slots Q (F0 m 288 ls []) := by
  obtain ⟨hx, hb, hml, hown, hts, hX, hbl, hK, hSt, hE, hN⟩ := C0
  have hA : ∀ q : Nat, s.heap.size ≤ q → lA s q := fun _ h => h
  have hbA : ¬ lA s b := Nat.not_le.mpr hbl
  obtain ⟨hn, hc, hk, hok, hsI, e1, e2, hrg, hB, hsv⟩ := id hT
  refine lv_aload_n hx hb dL_law_288 rfl (lv_at hl 2 rfl) ?_
  refine lv_aload_n hx hb dL_law_289 rfl (lv_at hl 1 rfl) ?_
  refine lv_iload hx hb dL_law_290 (lv_at hl 0 rfl) ?_
  refine lv_iconst (v := nI 1) hx hb dL_law_292 (by decide) ?_
  refine wn_iadd hx hb dL_law_293 ?_
  refine wa_sld hx hb hX hbl hbA hS (i := i + 1) (by omega) (by omega) dL_law_294 ?_
  refine lv_aload_n hx hb dL_law_295 rfl (lv_at hl 1 rfl) ?_
  refine lv_iload hx hb dL_law_296 (lv_at hl 0 rfl) ?_
  refine lv_iconst (v := nI 2) hx hb dL_law_298 (by decide) ?_
  refine wn_iadd hx hb dL_law_299 ?_
  refine wa_sld hx hb hX hbl hbA hS (i := i + 2) (by omega) (by omega) dL_law_300 ?_
  refine lv_aload_n hx hb dL_law_301 rfl (lv_at hl 4 rfl) ?_
  refine wc_calli (vx_runSW (As := [.ref (ad 0), .int (xs (i + 1)), .int (xs (i + 2)), .ref o.1]) (rest := []) ⟨hx, hb, hml, hown, hts⟩ (c_L_setRecharge l hlt dd cy ad (wM cy am mv) tt N o u g d _ n hn hok hc hsI (xs (i + 1)) (xs (i + 2))) (vx_cwSW 4 hts gL_law_L_setRecharge rfl rfl rfl hd_L_setRecharge ⟨Nat.le_of_ble_eq_true rfl, Nat.le_of_ble_eq_true rfl⟩) (wrL_S hN hP hK hD hSt hE hS hA) rfl rfl hl.1 rfl (lv_room (Nat.le_of_ble_eq_true rfl)) dL_law_302 ⟨by show _ ≤ 603072; omega, by show _ ≤ 7219306; omega⟩) hD hS hA (fun r9 z9 H locs hz hP hD hS => ?_)
  obtain ⟨u9, g9, d9⟩ := z9
  obtain ⟨hz1, hz2, hz3⟩ := hz
  have hz1 : r9 = nI (if inR (xs (i + 1)) (nI 0) (nI 8) then (if inR (xs (i + 2)) (nI 0) (nI 1000) then 0 else 2) else 1) := hz1
  have hz2 : (if inR (xs (i + 1)) (nI 0) (nI 8) then (if inR (xs (i + 2)) (nI 0) (nI 1000) then 0 else 2) else 1) = 0 → ∃ q9 : Int32, g9 0 = q9.toInt64 ∧ q9 = nw u (36 + (xs (i + 1)).toNatClampNeg) ∧ svN n u u9 ∧ nw u9 = upd (nw u) (36 + (xs (i + 1)).toNatClampNeg) (xs (i + 2)) ∧ u9.2.1 24 = u.2.1 24 := hz2
  have hz3 : (if inR (xs (i + 1)) (nI 0) (nI 8) then (if inR (xs (i + 2)) (nI 0) (nI 1000) then 0 else 2) else 1) ≠ 0 → frP u u9 := hz3
  have hP : va_P dd vwCl (wM cy am mv ++ wY cy ad o (u9, g9, d9)) H := wT_M hP
  have hD : va_D (lA s) (wM cy am mv ++ wY cy ad o (u9, g9, d9)) := wT_MD hD
  refine lv_istore (lv' := [(6, .int r9), (5, .int (nI i)), (0, .ref b), (1, .ref (ad 0)), (2, .ref (am 0)), (3, .ref o.1), (4, .ref o.2)]) hx hb dL_law_305 hl (by decide) rfl (fun ls hl => ?_)
  refine lv_aload_n hx hb dL_law_307 rfl (lv_at hl 4 rfl) ?_
  refine lv_aload_n hx hb dL_law_308 rfl (lv_at hl 2 rfl) ?_
  refine lv_iload hx hb dL_law_309 (lv_at hl 1 rfl) ?_
  refine lv_iconst (v := nI 1) hx hb dL_law_311 (by decide) ?_
  refine wn_iadd hx hb dL_law_312 ?_
  refine wa_sld hx hb hX hbl hbA hS (i := i + 1) (by omega) (by omega) dL_law_313 ?_
  refine lv_aload_n hx hb dL_law_314 rfl (lv_at hl 2 rfl) ?_
  refine lv_iload hx hb dL_law_315 (lv_at hl 1 rfl) ?_
  refine lv_iconst (v := nI 2) hx hb dL_law_317 (by decide) ?_
  refine wn_iadd hx hb dL_law_318 ?_
  refine wa_sld hx hb hX hbl hbA hS (i := i + 2) (by omega) (by omega) dL_law_319 ?_
  refine wc_calli (va_runV (As := [.int (xs (i + 1)), .int (xs (i + 2))]) (rest := []) ⟨hx, hb, hml, hown, hts⟩ (c_X3_setRecharge l dd cy am (wY cy ad o (u9, g9, d9)) mv _ n hn hk (xs (i + 1)) (xs (i + 2))) (cwV 2 hts gL_law_X3_setRecharge rfl rfl rfl hd_X3_setRecharge ⟨Nat.le_of_ble_eq_true rfl, Nat.le_of_ble_eq_true rfl⟩) (wrW_V hP hK hD (wM_0 cy am mv (wY cy ad o (u9, g9, d9))) rfl) rfl rfl hl.1 rfl (lv_room (Nat.le_of_ble_eq_true rfl)) dL_law_320 ⟨by show _ ≤ 603072; omega, by show _ ≤ 7219306; omega⟩) hD hS hA (fun r8 mv9 H locs hw hP hD hS => ?_)
  have hw : mv9.2.2.2.2.1 = nI (if inR (xs (i + 1)) (nI 0) (nI 8) then (if inR (xs (i + 2)) (nI 0) (nI 1000) then 0 else 2) else 1) ∧ ((if inR (xs (i + 1)) (nI 0) (nI 8) then (if inR (xs (i + 2)) (nI 0) (nI 1000) then 0 else 2) else 1) ≠ 0 → mv9.1 = mv.1 ∧ mv9.2.1 = mv.2.1 ∧ mv9.2.2.2.1 = mv.2.2.2.1) ∧ ((if inR (xs (i + 1)) (nI 0) (nI 8) then (if inR (xs (i + 2)) (nI 0) (nI 1000) then 0 else 2) else 1) = 0 → r8 = mv.1 1 (36 + (xs (i + 1)).toNatClampNeg) ∧ svP n mv mv9 ∧ mv9.1 1 = upd (mv.1 1) (36 + (xs (i + 1)).toNatClampNeg) (xs (i + 2)) ∧ mv9.2.1 2 = mv.2.1 2) := hw
  try rw [lsM_N] at hw
  try rw [e1] at hw
  try rw [e2] at hw
  refine lv_istore (lv' := [(7, .int r8), (6, .int r9), (5, .int (nI i)), (0, .ref b), (1, .ref (ad 0)), (2, .ref (am 0)), (3, .ref o.1), (4, .ref o.2)]) hx hb dL_law_323 hl (by decide) rfl (fun ls hl => ?_)
  refine lv_aload_n hx hb dL_law_325 rfl (lv_at hl 5 rfl) ?_
  refine vp_callSi (va_runV (As := []) (rest := []) ⟨hx, hb, hml, hown, hts⟩ (c_X3_thrown l dd cy am (wY cy ad o (u9, g9, d9)) mv9) (cwV 0 hts gL_law_X3_thrown rfl rfl rfl hd_X3_thrown ⟨Nat.le_of_ble_eq_true rfl, Nat.le_of_ble_eq_true rfl⟩) (rdW_V hP hK (wM_0 cy am mv9 (wY cy ad o (u9, g9, d9))) rfl) rfl rfl hl.1 rfl (lv_room (Nat.le_of_ble_eq_true rfl)) dL_law_326 ⟨by show _ ≤ 603072; omega, by show _ ≤ 7219306; omega⟩).run (fun r7 hr7 => ?_)
  have hq7 : r7 = r9 := by rw [hr7, hz1]; exact hw.1
  refine lv_iload hx hb dL_law_329 (lv_at hl 1 rfl) ?_
  refine lv_icmp_eq (tgt := 336) hx hb dL_law_331 (by decide) (fun _ => ?_) (fun c1 => (by first | exact absurd hq7 c1 | exact absurd c1 hq7))
  refine lv_iload hx hb dL_law_336 (lv_at hl 1 rfl) ?_
  refine lv_if_ne (tgt := 353) hx hb dL_law_338 (by decide) (fun cK => ?_) (fun cK => ?_)
  · have h0 : ¬ (if inR (xs (i + 1)) (nI 0) (nI 8) then (if inR (xs (i + 2)) (nI 0) (nI 1000) then 0 else 2) else 1) = 0 := fun q => cK (by rw [hz1, q]; rfl)
    refine lv_goto (tgt := 1502) hx hb dL_law_353 (by decide) ?_
    refine W.widen (k := cells + 4) (n := slots + 24) (by omega) (by omega) ?_
    exact kk n u9 mv9 g9 d9 H locs ls (tie_mono (tie_fr hT (hz3 h0) (hw.2.1 h0).1 (hw.2.1 h0).2.1 (hw.2.1 h0).2.2) (by omega)) (wT_L hP) (wT_LD hD) hS (lv_sub hl [2, 3, 4, 5, 6, 7] rfl)
  · have h3 : (if inR (xs (i + 1)) (nI 0) (nI 8) then (if inR (xs (i + 2)) (nI 0) (nI 1000) then 0 else 2) else 1) ≤ 3 := by (repeat' split) <;> decide
    have h0 : (if inR (xs (i + 1)) (nI 0) (nI 8) then (if inR (xs (i + 2)) (nI 0) (nI 1000) then 0 else 2) else 1) = 0 := nI_z h3 (by rw [← hz1]; exact cK)
    obtain ⟨q9, hq1, k1, k2, k3, k4⟩ := hz2 h0
    obtain ⟨m1, m2, m3, m4⟩ := hw.2.2 h0
    have hv9 : g9 0 = r8.toInt64 := by rw [hq1, k1, m1]
    refine lv_aload_n hx hb dL_law_341 rfl (lv_at hl 6 rfl) ?_
    refine lv_iconst (v := nI 0) hx hb dL_law_342 (by decide) ?_
    refine wa_lald hx hb hK hP (wY_69 cy ad am o mv9 u9 g9 d9) (t0 := 1) rfl (i := 0) (by decide) (by decide) dL_law_343 ?_
    refine lv_iload hx hb dL_law_344 (lv_at hl 0 rfl) ?_
    refine lv_i2l hx hb dL_law_346 rfl ?_
    refine wl_eq (tgt := 353) hx hb dL_law_347 dL_law_348 (by decide) (fun _ => ?_) (fun c2 => (by first | exact absurd hv9 c2 | exact absurd c2 hv9))
    refine lv_goto (tgt := 1502) hx hb dL_law_353 (by decide) ?_
    obtain ⟨j1, j2⟩ := th2 h0
    have hix := inR_ix (by decide) j1
    have hva := inR_rg (by decide) j2
    refine W.widen (k := cells + 4) (n := slots + 24) (by omega) (by omega) ?_
    exact kk (kpM n + 1) u9 mv9 g9 d9 H locs ls (tie_sv (b2 := bb + 900000) hT k2 m2 (by rw [m3, k3]) (by rw [m4, k4]) (by rw [k3]; exact rgM_u hrg (fun h9 => by omega) (fun h9 => by omega)) (fun j hj => by rw [k4]; exact dB_mono (hB j hj) (by omega)) (by omega)) (wT_L hP) (wT_LD hD) hS (lv_sub hl [2, 3, 4, 5, 6, 7] rfl)
set_option maxHeartbeats 4000000 in
set_option maxRecDepth 100000 in
/-- the law: setRate -/
theorem lc_setRate {p : Program} {l : Launch} {e : Env} {s : State} {m : MethodId} {below : List Frame} {meth : Method} {c : Code} {Q : State → Prop} {dd : va_G} {cy : Nat → ClassId} {ad am : Nat → Nat} {tt : Nat × Nat} {N : Nat → Nat} {o : Nat × Nat} {b L : Nat} {xs : Nat → Int32} (hlt : l.stackTraces = false) (C0 : lcx p s m c dd cy tt N b L xs) {i n bb cells slots : Nat} {u : CS} {mv : MS} {g : Nat → Int64} {d : Nat → UInt64} {H : Heap} {locs : List Loc} {ls : Array Slot} (hi : i + 4 ≤ L) (hL : L ≤ 2048) (hT : Tie n bb u mv) (hb0 : 1000 ≤ bb) (hb1 : bb + 900000 ≤ 2 ^ 40) (hce0 : cells + 4 ≤ 603072) (hsl0 : slots + 24 ≤ 7219306) (hP : va_P dd vwCl (wL cy ad o (wM cy am mv) (u, g, d)) H) (hD : va_D (lA s) (wL cy ad o (wM cy am mv) (u, g, d))) (hS : va_S (lA s) s.heap H locs) (hl : lv_has ls 9 [(5, .int (nI i)), (0, .ref b), (1, .ref (ad 0)), (2, .ref (am 0)), (3, .ref o.1), (4, .ref o.2)])
    (kk : ∀ (n : Nat) (u : CS) (mv : MS) (g : Nat → Int64) (d : Nat → UInt64) (H : Heap) (locs : List Loc) (ls : Array Slot), Tie n (bb + 900000) u mv → va_P dd vwCl (wL cy ad o (wM cy am mv) (u, g, d)) H → va_D (lA s) (wL cy ad o (wM cy am mv) (u, g, d)) → va_S (lA s) s.heap H locs → lv_has ls 9 [(5, .int (nI i)), (0, .ref b), (1, .ref (ad 0)), (2, .ref (am 0)), (3, .ref o.1), (4, .ref o.2)] → W p l e room_1 s m #[Value.ref b] below meth c H locs (cells + 4) (slots + 24) Q (F0 m 1502 ls [])) : W p l e room_1 s m #[Value.ref b] below meth c H locs cells slots Q (F0 m 356 ls []) := by
  obtain ⟨hx, hb, hml, hown, hts, hX, hbl, hK, hSt, hE, hN⟩ := C0
  have hA : ∀ q : Nat, s.heap.size ≤ q → lA s q := fun _ h => h
  have hbA : ¬ lA s b := Nat.not_le.mpr hbl
  obtain ⟨hn, hc, hk, hok, hsI, e1, e2, hrg, hB, hsv⟩ := id hT
  refine lv_aload_n hx hb dL_law_356 rfl (lv_at hl 2 rfl) ?_
  refine lv_aload_n hx hb dL_law_357 rfl (lv_at hl 1 rfl) ?_
  refine lv_iload hx hb dL_law_358 (lv_at hl 0 rfl) ?_
  refine lv_iconst (v := nI 1) hx hb dL_law_360 (by decide) ?_
  refine wn_iadd hx hb dL_law_361 ?_
  refine wa_sld hx hb hX hbl hbA hS (i := i + 1) (by omega) (by omega) dL_law_362 ?_
  refine lv_aload_n hx hb dL_law_363 rfl (lv_at hl 1 rfl) ?_
  refine lv_iload hx hb dL_law_364 (lv_at hl 0 rfl) ?_
  refine lv_iconst (v := nI 2) hx hb dL_law_366 (by decide) ?_
  refine wn_iadd hx hb dL_law_367 ?_
  refine wa_sld hx hb hX hbl hbA hS (i := i + 2) (by omega) (by omega) dL_law_368 ?_
  refine lv_aload_n hx hb dL_law_369 rfl (lv_at hl 4 rfl) ?_
  refine wc_calli (vx_runSW (As := [.ref (ad 0), .int (xs (i + 1)), .int (xs (i + 2)), .ref o.1]) (rest := []) ⟨hx, hb, hml, hown, hts⟩ (c_L_setRate l hlt dd cy ad (wM cy am mv) tt N o u g d _ n hn hok hc hsI (xs (i + 1)) (xs (i + 2))) (vx_cwSW 4 hts gL_law_L_setRate rfl rfl rfl hd_L_setRate ⟨Nat.le_of_ble_eq_true rfl, Nat.le_of_ble_eq_true rfl⟩) (wrL_S hN hP hK hD hSt hE hS hA) rfl rfl hl.1 rfl (lv_room (Nat.le_of_ble_eq_true rfl)) dL_law_370 ⟨by show _ ≤ 603072; omega, by show _ ≤ 7219306; omega⟩) hD hS hA (fun r9 z9 H locs hz hP hD hS => ?_)
  obtain ⟨u9, g9, d9⟩ := z9
  obtain ⟨hz1, hz2, hz3⟩ := hz
  have hz1 : r9 = nI (if inR (xs (i + 1)) (nI 0) (nI 8) then (if inR (xs (i + 2)) (nI 0) (nI 1000) then 0 else 2) else 1) := hz1
  have hz2 : (if inR (xs (i + 1)) (nI 0) (nI 8) then (if inR (xs (i + 2)) (nI 0) (nI 1000) then 0 else 2) else 1) = 0 → ∃ q9 : Int32, g9 0 = q9.toInt64 ∧ q9 = nw u (45 + (xs (i + 1)).toNatClampNeg) ∧ svN n u u9 ∧ nw u9 = upd (nw u) (45 + (xs (i + 1)).toNatClampNeg) (xs (i + 2)) ∧ u9.2.1 24 = u.2.1 24 := hz2
  have hz3 : (if inR (xs (i + 1)) (nI 0) (nI 8) then (if inR (xs (i + 2)) (nI 0) (nI 1000) then 0 else 2) else 1) ≠ 0 → frP u u9 := hz3
  have hP : va_P dd vwCl (wM cy am mv ++ wY cy ad o (u9, g9, d9)) H := wT_M hP
  have hD : va_D (lA s) (wM cy am mv ++ wY cy ad o (u9, g9, d9)) := wT_MD hD
  refine lv_istore (lv' := [(6, .int r9), (5, .int (nI i)), (0, .ref b), (1, .ref (ad 0)), (2, .ref (am 0)), (3, .ref o.1), (4, .ref o.2)]) hx hb dL_law_373 hl (by decide) rfl (fun ls hl => ?_)
  refine lv_aload_n hx hb dL_law_375 rfl (lv_at hl 4 rfl) ?_
  refine lv_aload_n hx hb dL_law_376 rfl (lv_at hl 2 rfl) ?_
  refine lv_iload hx hb dL_law_377 (lv_at hl 1 rfl) ?_
  refine lv_iconst (v := nI 1) hx hb dL_law_379 (by decide) ?_
  refine wn_iadd hx hb dL_law_380 ?_
  refine wa_sld hx hb hX hbl hbA hS (i := i + 1) (by omega) (by omega) dL_law_381 ?_
  refine lv_aload_n hx hb dL_law_382 rfl (lv_at hl 2 rfl) ?_
  refine lv_iload hx hb dL_law_383 (lv_at hl 1 rfl) ?_
  refine lv_iconst (v := nI 2) hx hb dL_law_385 (by decide) ?_
  refine wn_iadd hx hb dL_law_386 ?_
  refine wa_sld hx hb hX hbl hbA hS (i := i + 2) (by omega) (by omega) dL_law_387 ?_
  refine wc_calli (va_runV (As := [.int (xs (i + 1)), .int (xs (i + 2))]) (rest := []) ⟨hx, hb, hml, hown, hts⟩ (c_X3_setRate l dd cy am (wY cy ad o (u9, g9, d9)) mv _ n hn hk (xs (i + 1)) (xs (i + 2))) (cwV 2 hts gL_law_X3_setRate rfl rfl rfl hd_X3_setRate ⟨Nat.le_of_ble_eq_true rfl, Nat.le_of_ble_eq_true rfl⟩) (wrW_V hP hK hD (wM_0 cy am mv (wY cy ad o (u9, g9, d9))) rfl) rfl rfl hl.1 rfl (lv_room (Nat.le_of_ble_eq_true rfl)) dL_law_388 ⟨by show _ ≤ 603072; omega, by show _ ≤ 7219306; omega⟩) hD hS hA (fun r8 mv9 H locs hw hP hD hS => ?_)
  have hw : mv9.2.2.2.2.1 = nI (if inR (xs (i + 1)) (nI 0) (nI 8) then (if inR (xs (i + 2)) (nI 0) (nI 1000) then 0 else 2) else 1) ∧ ((if inR (xs (i + 1)) (nI 0) (nI 8) then (if inR (xs (i + 2)) (nI 0) (nI 1000) then 0 else 2) else 1) ≠ 0 → mv9.1 = mv.1 ∧ mv9.2.1 = mv.2.1 ∧ mv9.2.2.2.1 = mv.2.2.2.1) ∧ ((if inR (xs (i + 1)) (nI 0) (nI 8) then (if inR (xs (i + 2)) (nI 0) (nI 1000) then 0 else 2) else 1) = 0 → r8 = mv.1 1 (45 + (xs (i + 1)).toNatClampNeg) ∧ svP n mv mv9 ∧ mv9.1 1 = upd (mv.1 1) (45 + (xs (i + 1)).toNatClampNeg) (xs (i + 2)) ∧ mv9.2.1 2 = mv.2.1 2) := hw
  try rw [lsM_N] at hw
  try rw [e1] at hw
  try rw [e2] at hw
  refine lv_istore (lv' := [(7, .int r8), (6, .int r9), (5, .int (nI i)), (0, .ref b), (1, .ref (ad 0)), (2, .ref (am 0)), (3, .ref o.1), (4, .ref o.2)]) hx hb dL_law_391 hl (by decide) rfl (fun ls hl => ?_)
  refine lv_aload_n hx hb dL_law_393 rfl (lv_at hl 5 rfl) ?_
  refine vp_callSi (va_runV (As := []) (rest := []) ⟨hx, hb, hml, hown, hts⟩ (c_X3_thrown l dd cy am (wY cy ad o (u9, g9, d9)) mv9) (cwV 0 hts gL_law_X3_thrown rfl rfl rfl hd_X3_thrown ⟨Nat.le_of_ble_eq_true rfl, Nat.le_of_ble_eq_true rfl⟩) (rdW_V hP hK (wM_0 cy am mv9 (wY cy ad o (u9, g9, d9))) rfl) rfl rfl hl.1 rfl (lv_room (Nat.le_of_ble_eq_true rfl)) dL_law_394 ⟨by show _ ≤ 603072; omega, by show _ ≤ 7219306; omega⟩).run (fun r7 hr7 => ?_)
  have hq7 : r7 = r9 := by rw [hr7, hz1]; exact hw.1
  refine lv_iload hx hb dL_law_397 (lv_at hl 1 rfl) ?_
  refine lv_icmp_eq (tgt := 404) hx hb dL_law_399 (by decide) (fun _ => ?_) (fun c1 => (by first | exact absurd hq7 c1 | exact absurd c1 hq7))
  refine lv_iload hx hb dL_law_404 (lv_at hl 1 rfl) ?_
  refine lv_if_ne (tgt := 421) hx hb dL_law_406 (by decide) (fun cK => ?_) (fun cK => ?_)
  · have h0 : ¬ (if inR (xs (i + 1)) (nI 0) (nI 8) then (if inR (xs (i + 2)) (nI 0) (nI 1000) then 0 else 2) else 1) = 0 := fun q => cK (by rw [hz1, q]; rfl)
    refine lv_goto (tgt := 1502) hx hb dL_law_421 (by decide) ?_
    refine W.widen (k := cells + 4) (n := slots + 24) (by omega) (by omega) ?_
    exact kk n u9 mv9 g9 d9 H locs ls (tie_mono (tie_fr hT (hz3 h0) (hw.2.1 h0).1 (hw.2.1 h0).2.1 (hw.2.1 h0).2.2) (by omega)) (wT_L hP) (wT_LD hD) hS (lv_sub hl [2, 3, 4, 5, 6, 7] rfl)
  · have h3 : (if inR (xs (i + 1)) (nI 0) (nI 8) then (if inR (xs (i + 2)) (nI 0) (nI 1000) then 0 else 2) else 1) ≤ 3 := by (repeat' split) <;> decide
    have h0 : (if inR (xs (i + 1)) (nI 0) (nI 8) then (if inR (xs (i + 2)) (nI 0) (nI 1000) then 0 else 2) else 1) = 0 := nI_z h3 (by rw [← hz1]; exact cK)
    obtain ⟨q9, hq1, k1, k2, k3, k4⟩ := hz2 h0
    obtain ⟨m1, m2, m3, m4⟩ := hw.2.2 h0
    have hv9 : g9 0 = r8.toInt64 := by rw [hq1, k1, m1]
    refine lv_aload_n hx hb dL_law_409 rfl (lv_at hl 6 rfl) ?_
    refine lv_iconst (v := nI 0) hx hb dL_law_410 (by decide) ?_
    refine wa_lald hx hb hK hP (wY_69 cy ad am o mv9 u9 g9 d9) (t0 := 1) rfl (i := 0) (by decide) (by decide) dL_law_411 ?_
    refine lv_iload hx hb dL_law_412 (lv_at hl 0 rfl) ?_
    refine lv_i2l hx hb dL_law_414 rfl ?_
    refine wl_eq (tgt := 421) hx hb dL_law_415 dL_law_416 (by decide) (fun _ => ?_) (fun c2 => (by first | exact absurd hv9 c2 | exact absurd c2 hv9))
    refine lv_goto (tgt := 1502) hx hb dL_law_421 (by decide) ?_
    obtain ⟨j1, j2⟩ := th2 h0
    have hix := inR_ix (by decide) j1
    have hva := inR_rg (by decide) j2
    refine W.widen (k := cells + 4) (n := slots + 24) (by omega) (by omega) ?_
    exact kk (kpM n + 1) u9 mv9 g9 d9 H locs ls (tie_sv (b2 := bb + 900000) hT k2 m2 (by rw [m3, k3]) (by rw [m4, k4]) (by rw [k3]; exact rgM_u hrg (fun h9 => by omega) (fun h9 => by omega)) (fun j hj => by rw [k4]; exact dB_mono (hB j hj) (by omega)) (by omega)) (wT_L hP) (wT_LD hD) hS (lv_sub hl [2, 3, 4, 5, 6, 7] rfl)
set_option maxHeartbeats 4000000 in
set_option maxRecDepth 100000 in
/-- the law: setLevels -/
theorem lc_setLevels {p : Program} {l : Launch} {e : Env} {s : State} {m : MethodId} {below : List Frame} {meth : Method} {c : Code} {Q : State → Prop} {dd : va_G} {cy : Nat → ClassId} {ad am : Nat → Nat} {tt : Nat × Nat} {N : Nat → Nat} {o : Nat × Nat} {b L : Nat} {xs : Nat → Int32} (hlt : l.stackTraces = false) (C0 : lcx p s m c dd cy tt N b L xs) {i n bb cells slots : Nat} {u : CS} {mv : MS} {g : Nat → Int64} {d : Nat → UInt64} {H : Heap} {locs : List Loc} {ls : Array Slot} (hi : i + 4 ≤ L) (hL : L ≤ 2048) (hT : Tie n bb u mv) (hb0 : 1000 ≤ bb) (hb1 : bb + 900000 ≤ 2 ^ 40) (hce0 : cells + 4 ≤ 603072) (hsl0 : slots + 24 ≤ 7219306) (hP : va_P dd vwCl (wL cy ad o (wM cy am mv) (u, g, d)) H) (hD : va_D (lA s) (wL cy ad o (wM cy am mv) (u, g, d))) (hS : va_S (lA s) s.heap H locs) (hl : lv_has ls 9 [(5, .int (nI i)), (0, .ref b), (1, .ref (ad 0)), (2, .ref (am 0)), (3, .ref o.1), (4, .ref o.2)])
    (kk : ∀ (n : Nat) (u : CS) (mv : MS) (g : Nat → Int64) (d : Nat → UInt64) (H : Heap) (locs : List Loc) (ls : Array Slot), Tie n (bb + 900000) u mv → va_P dd vwCl (wL cy ad o (wM cy am mv) (u, g, d)) H → va_D (lA s) (wL cy ad o (wM cy am mv) (u, g, d)) → va_S (lA s) s.heap H locs → lv_has ls 9 [(5, .int (nI i)), (0, .ref b), (1, .ref (ad 0)), (2, .ref (am 0)), (3, .ref o.1), (4, .ref o.2)] → W p l e room_1 s m #[Value.ref b] below meth c H locs (cells + 4) (slots + 24) Q (F0 m 1502 ls [])) : W p l e room_1 s m #[Value.ref b] below meth c H locs cells slots Q (F0 m 424 ls []) := by
  obtain ⟨hx, hb, hml, hown, hts, hX, hbl, hK, hSt, hE, hN⟩ := C0
  have hA : ∀ q : Nat, s.heap.size ≤ q → lA s q := fun _ h => h
  have hbA : ¬ lA s b := Nat.not_le.mpr hbl
  obtain ⟨hn, hc, hk, hok, hsI, e1, e2, hrg, hB, hsv⟩ := id hT
  refine lv_aload_n hx hb dL_law_424 rfl (lv_at hl 2 rfl) ?_
  refine lv_aload_n hx hb dL_law_425 rfl (lv_at hl 1 rfl) ?_
  refine lv_iload hx hb dL_law_426 (lv_at hl 0 rfl) ?_
  refine lv_iconst (v := nI 1) hx hb dL_law_428 (by decide) ?_
  refine wn_iadd hx hb dL_law_429 ?_
  refine wa_sld hx hb hX hbl hbA hS (i := i + 1) (by omega) (by omega) dL_law_430 ?_
  refine lv_aload_n hx hb dL_law_431 rfl (lv_at hl 1 rfl) ?_
  refine lv_iload hx hb dL_law_432 (lv_at hl 0 rfl) ?_
  refine lv_iconst (v := nI 2) hx hb dL_law_434 (by decide) ?_
  refine wn_iadd hx hb dL_law_435 ?_
  refine wa_sld hx hb hX hbl hbA hS (i := i + 2) (by omega) (by omega) dL_law_436 ?_
  refine lv_aload_n hx hb dL_law_437 rfl (lv_at hl 1 rfl) ?_
  refine lv_iload hx hb dL_law_438 (lv_at hl 0 rfl) ?_
  refine lv_iconst (v := nI 3) hx hb dL_law_440 (by decide) ?_
  refine wn_iadd hx hb dL_law_441 ?_
  refine wa_sld hx hb hX hbl hbA hS (i := i + 3) (by omega) (by omega) dL_law_442 ?_
  refine lv_aload_n hx hb dL_law_443 rfl (lv_at hl 4 rfl) ?_
  refine wc_calli (vx_runSW (As := [.ref (ad 0), .int (xs (i + 1)), .int (xs (i + 2)), .int (xs (i + 3)), .ref o.1]) (rest := []) ⟨hx, hb, hml, hown, hts⟩ (c_L_setLevels l hlt dd cy ad (wM cy am mv) tt N o u g d _ n hn hok hc hsI (xs (i + 1)) (xs (i + 2)) (xs (i + 3))) (vx_cwSW 5 hts gL_law_L_setLevels rfl rfl rfl hd_L_setLevels ⟨Nat.le_of_ble_eq_true rfl, Nat.le_of_ble_eq_true rfl⟩) (wrL_S hN hP hK hD hSt hE hS hA) rfl rfl hl.1 rfl (lv_room (Nat.le_of_ble_eq_true rfl)) dL_law_444 ⟨by show _ ≤ 603072; omega, by show _ ≤ 7219306; omega⟩) hD hS hA (fun r9 z9 H locs hz hP hD hS => ?_)
  obtain ⟨u9, g9, d9⟩ := z9
  obtain ⟨hz1, hz2, hz3⟩ := hz
  have hz1 : r9 = nI (if inR (xs (i + 1)) (nI 0) (nI 8) then (if inR (xs (i + 2)) (nI 0) (nI 1000) && inR (xs (i + 3)) (nI 0) (nI 1000) then 0 else 2) else 1) := hz1
  have hz2 : (if inR (xs (i + 1)) (nI 0) (nI 8) then (if inR (xs (i + 2)) (nI 0) (nI 1000) && inR (xs (i + 3)) (nI 0) (nI 1000) then 0 else 2) else 1) = 0 → ∃ q9 : Int32, g9 0 = q9.toInt64 ∧ q9 = nw u (63 + (xs (i + 1)).toNatClampNeg) ∧ svN n u u9 ∧ nw u9 = upd (upd (nw u) (63 + (xs (i + 1)).toNatClampNeg) (xs (i + 3))) (54 + (xs (i + 1)).toNatClampNeg) (xs (i + 2)) ∧ u9.2.1 24 = u.2.1 24 := hz2
  have hz3 : (if inR (xs (i + 1)) (nI 0) (nI 8) then (if inR (xs (i + 2)) (nI 0) (nI 1000) && inR (xs (i + 3)) (nI 0) (nI 1000) then 0 else 2) else 1) ≠ 0 → frP u u9 := hz3
  have hP : va_P dd vwCl (wM cy am mv ++ wY cy ad o (u9, g9, d9)) H := wT_M hP
  have hD : va_D (lA s) (wM cy am mv ++ wY cy ad o (u9, g9, d9)) := wT_MD hD
  refine lv_istore (lv' := [(6, .int r9), (5, .int (nI i)), (0, .ref b), (1, .ref (ad 0)), (2, .ref (am 0)), (3, .ref o.1), (4, .ref o.2)]) hx hb dL_law_447 hl (by decide) rfl (fun ls hl => ?_)
  refine lv_aload_n hx hb dL_law_449 rfl (lv_at hl 4 rfl) ?_
  refine lv_aload_n hx hb dL_law_450 rfl (lv_at hl 2 rfl) ?_
  refine lv_iload hx hb dL_law_451 (lv_at hl 1 rfl) ?_
  refine lv_iconst (v := nI 1) hx hb dL_law_453 (by decide) ?_
  refine wn_iadd hx hb dL_law_454 ?_
  refine wa_sld hx hb hX hbl hbA hS (i := i + 1) (by omega) (by omega) dL_law_455 ?_
  refine lv_aload_n hx hb dL_law_456 rfl (lv_at hl 2 rfl) ?_
  refine lv_iload hx hb dL_law_457 (lv_at hl 1 rfl) ?_
  refine lv_iconst (v := nI 2) hx hb dL_law_459 (by decide) ?_
  refine wn_iadd hx hb dL_law_460 ?_
  refine wa_sld hx hb hX hbl hbA hS (i := i + 2) (by omega) (by omega) dL_law_461 ?_
  refine lv_aload_n hx hb dL_law_462 rfl (lv_at hl 2 rfl) ?_
  refine lv_iload hx hb dL_law_463 (lv_at hl 1 rfl) ?_
  refine lv_iconst (v := nI 3) hx hb dL_law_465 (by decide) ?_
  refine wn_iadd hx hb dL_law_466 ?_
  refine wa_sld hx hb hX hbl hbA hS (i := i + 3) (by omega) (by omega) dL_law_467 ?_
  refine wc_calli (va_runV (As := [.int (xs (i + 1)), .int (xs (i + 2)), .int (xs (i + 3))]) (rest := []) ⟨hx, hb, hml, hown, hts⟩ (c_X3_setLevels l dd cy am (wY cy ad o (u9, g9, d9)) mv _ n hn hk (xs (i + 1)) (xs (i + 2)) (xs (i + 3))) (cwV 3 hts gL_law_X3_setLevels rfl rfl rfl hd_X3_setLevels ⟨Nat.le_of_ble_eq_true rfl, Nat.le_of_ble_eq_true rfl⟩) (wrW_V hP hK hD (wM_0 cy am mv (wY cy ad o (u9, g9, d9))) rfl) rfl rfl hl.1 rfl (lv_room (Nat.le_of_ble_eq_true rfl)) dL_law_468 ⟨by show _ ≤ 603072; omega, by show _ ≤ 7219306; omega⟩) hD hS hA (fun r8 mv9 H locs hw hP hD hS => ?_)
  have hw : mv9.2.2.2.2.1 = nI (if inR (xs (i + 1)) (nI 0) (nI 8) then (if inR (xs (i + 2)) (nI 0) (nI 1000) && inR (xs (i + 3)) (nI 0) (nI 1000) then 0 else 2) else 1) ∧ ((if inR (xs (i + 1)) (nI 0) (nI 8) then (if inR (xs (i + 2)) (nI 0) (nI 1000) && inR (xs (i + 3)) (nI 0) (nI 1000) then 0 else 2) else 1) ≠ 0 → mv9.1 = mv.1 ∧ mv9.2.1 = mv.2.1 ∧ mv9.2.2.2.1 = mv.2.2.2.1) ∧ ((if inR (xs (i + 1)) (nI 0) (nI 8) then (if inR (xs (i + 2)) (nI 0) (nI 1000) && inR (xs (i + 3)) (nI 0) (nI 1000) then 0 else 2) else 1) = 0 → r8 = mv.1 1 (63 + (xs (i + 1)).toNatClampNeg) ∧ svP n mv mv9 ∧ mv9.1 1 = upd (upd (mv.1 1) (63 + (xs (i + 1)).toNatClampNeg) (xs (i + 3))) (54 + (xs (i + 1)).toNatClampNeg) (xs (i + 2)) ∧ mv9.2.1 2 = mv.2.1 2) := hw
  try rw [lsM_N] at hw
  try rw [e1] at hw
  try rw [e2] at hw
  refine lv_istore (lv' := [(7, .int r8), (6, .int r9), (5, .int (nI i)), (0, .ref b), (1, .ref (ad 0)), (2, .ref (am 0)), (3, .ref o.1), (4, .ref o.2)]) hx hb dL_law_471 hl (by decide) rfl (fun ls hl => ?_)
  refine lv_aload_n hx hb dL_law_473 rfl (lv_at hl 5 rfl) ?_
  refine vp_callSi (va_runV (As := []) (rest := []) ⟨hx, hb, hml, hown, hts⟩ (c_X3_thrown l dd cy am (wY cy ad o (u9, g9, d9)) mv9) (cwV 0 hts gL_law_X3_thrown rfl rfl rfl hd_X3_thrown ⟨Nat.le_of_ble_eq_true rfl, Nat.le_of_ble_eq_true rfl⟩) (rdW_V hP hK (wM_0 cy am mv9 (wY cy ad o (u9, g9, d9))) rfl) rfl rfl hl.1 rfl (lv_room (Nat.le_of_ble_eq_true rfl)) dL_law_474 ⟨by show _ ≤ 603072; omega, by show _ ≤ 7219306; omega⟩).run (fun r7 hr7 => ?_)
  have hq7 : r7 = r9 := by rw [hr7, hz1]; exact hw.1
  refine lv_iload hx hb dL_law_477 (lv_at hl 1 rfl) ?_
  refine lv_icmp_eq (tgt := 484) hx hb dL_law_479 (by decide) (fun _ => ?_) (fun c1 => (by first | exact absurd hq7 c1 | exact absurd c1 hq7))
  refine lv_iload hx hb dL_law_484 (lv_at hl 1 rfl) ?_
  refine lv_if_ne (tgt := 501) hx hb dL_law_486 (by decide) (fun cK => ?_) (fun cK => ?_)
  · have h0 : ¬ (if inR (xs (i + 1)) (nI 0) (nI 8) then (if inR (xs (i + 2)) (nI 0) (nI 1000) && inR (xs (i + 3)) (nI 0) (nI 1000) then 0 else 2) else 1) = 0 := fun q => cK (by rw [hz1, q]; rfl)
    refine lv_goto (tgt := 1502) hx hb dL_law_501 (by decide) ?_
    refine W.widen (k := cells + 4) (n := slots + 24) (by omega) (by omega) ?_
    exact kk n u9 mv9 g9 d9 H locs ls (tie_mono (tie_fr hT (hz3 h0) (hw.2.1 h0).1 (hw.2.1 h0).2.1 (hw.2.1 h0).2.2) (by omega)) (wT_L hP) (wT_LD hD) hS (lv_sub hl [2, 3, 4, 5, 6, 7] rfl)
  · have h3 : (if inR (xs (i + 1)) (nI 0) (nI 8) then (if inR (xs (i + 2)) (nI 0) (nI 1000) && inR (xs (i + 3)) (nI 0) (nI 1000) then 0 else 2) else 1) ≤ 3 := by (repeat' split) <;> decide
    have h0 : (if inR (xs (i + 1)) (nI 0) (nI 8) then (if inR (xs (i + 2)) (nI 0) (nI 1000) && inR (xs (i + 3)) (nI 0) (nI 1000) then 0 else 2) else 1) = 0 := nI_z h3 (by rw [← hz1]; exact cK)
    obtain ⟨q9, hq1, k1, k2, k3, k4⟩ := hz2 h0
    obtain ⟨m1, m2, m3, m4⟩ := hw.2.2 h0
    have hv9 : g9 0 = r8.toInt64 := by rw [hq1, k1, m1]
    refine lv_aload_n hx hb dL_law_489 rfl (lv_at hl 6 rfl) ?_
    refine lv_iconst (v := nI 0) hx hb dL_law_490 (by decide) ?_
    refine wa_lald hx hb hK hP (wY_69 cy ad am o mv9 u9 g9 d9) (t0 := 1) rfl (i := 0) (by decide) (by decide) dL_law_491 ?_
    refine lv_iload hx hb dL_law_492 (lv_at hl 0 rfl) ?_
    refine lv_i2l hx hb dL_law_494 rfl ?_
    refine wl_eq (tgt := 501) hx hb dL_law_495 dL_law_496 (by decide) (fun _ => ?_) (fun c2 => (by first | exact absurd hv9 c2 | exact absurd c2 hv9))
    refine lv_goto (tgt := 1502) hx hb dL_law_501 (by decide) ?_
    obtain ⟨j1, j2⟩ := th2 h0
    have hix := inR_ix (by decide) j1
    rw [Bool.and_eq_true] at j2
    have hva := inR_rg (by decide) j2.1
    have hvb := inR_rg (by decide) j2.2
    refine W.widen (k := cells + 4) (n := slots + 24) (by omega) (by omega) ?_
    exact kk (kpM n + 1) u9 mv9 g9 d9 H locs ls (tie_sv (b2 := bb + 900000) hT k2 m2 (by rw [m3, k3]) (by rw [m4, k4]) (by rw [k3]; exact rgM_u (rgM_u hrg (fun h9 => by omega) (fun h9 => by omega)) (fun h9 => by omega) (fun h9 => by omega)) (fun j hj => by rw [k4]; exact dB_mono (hB j hj) (by omega)) (by omega)) (wT_L hP) (wT_LD hD) hS (lv_sub hl [2, 3, 4, 5, 6, 7] rfl)

theorem hd_L_setLink : yL_setLink.cls ≠ "java/lang/invoke/MethodHandle" ∧ yL_setLink.cls ≠ "java/lang/invoke/VarHandle" ∧ (parseMethodDescriptor yL_setLink.desc).map (fun d => d.parameters.length) = some 4 := by decide +kernel
set_option maxHeartbeats 4000000 in
set_option maxRecDepth 100000 in
/-- L_setLink -/
theorem c_L_setLink (l : Launch) (hlt : l.stackTraces = false) (dd : va_G) (cy : Nat → ClassId) (ad : Nat → Nat) (X : va_W) (tt : Nat × Nat) (N : Nat → Nat) (o : Nat × Nat) (u : CS) (g : Nat → Int64) (d : Nat → UInt64) (sz : Nat) (n : Nat) (hn : n ≤ 4) (hok : svOk u.2.2.2.2.2.2) (h_savedCount : nI n = u.2.2.2.1) (hsI : slI u) (link v : Int32) : Met l yL_setLink wsL_setLink ({ frames := 8, cells := 2, slots := 12, locals := 125 }) (va_Pc [.ref (ad 0), .int link, .int v, .ref o.1] (wrL dd cy tt N (wL cy ad o X (u, g, d)) sz)) (va_Qi (fun r z9 => lwI (if inR link (nI 0) (nI 23) then (if inR v (nI 0) (nI 2) then 0 else 2) else 1) u (fun r u9 => r = nw u (0 + link.toNatClampNeg) ∧ svN n u u9 ∧ nw u9 = upd (nw u) (0 + link.toNatClampNeg) v ∧ u9.2.1 24 = u.2.1 24) r z9) (wB dd cy (fun z9 : LZ => wL cy ad o X z9) (va_A (wL cy ad o X (u, g, d)) sz)) (va_A (wL cy ad o X (u, g, d)) sz)) 2 12 (va_A (wL cy ad o X (u, g, d)) sz) := by
  refine wl_ofWH (cc := cL_setLink) (maxL := 5) (ret := (some .int)) (hh := [(0, 10, 13, 13), (0, 10, 17, 15)]) (by decide) rfl ?_
  intro p e s m args below meth c s₁ B hml hv
  obtain ⟨rfl, hN, ⟨hsz, hP, hK, hD0, hSt⟩, hE⟩ := hv
  have hx := B.exec
  have hb := B.bytes
  have hr := B.returns
  have hts := atoms_spec (ws := wsL_setLink) B.pre
  have hown : s.vm.findClass RL = some m.cls := findClass_of_methodNamed B.named
  have hlocks := B.notSynchronized
  have htab : c.exceptionTable.toList = [⟨0, 10, 13, 13⟩, ⟨0, 10, 17, 15⟩] := vx_table (x := yL_setLink) B (hts _ List.mem_cons_self)
  subst hsz
  have hD := hD0.self (sz := s.heap.size)
  generalize hAe : va_A (wL cy ad o X (u, g, d)) s.heap.size = A at hD hSt hE ⊢
  have hA : ∀ q : Nat, s.heap.size ≤ q → A q := fun q h => by rw [← hAe]; exact Or.inr h
  have hS : va_S A s.heap s.heap [] := va_S.rf
  have hP : va_P dd vwCl (wC cy ad u ++ xL cy o g d X) s.heap := hP
  have hD : va_D A (wC cy ad u ++ xL cy o g d X) := hD
  have hl := lv_entry ([.ref (ad 0), .int link, .int v, .ref o.1]) (n := 5) (Nat.le_of_ble_eq_true rfl)
  rw [lg_entry_eq]
  generalize (lg_sl ([.ref (ad 0), .int link, .int v, .ref o.1]) ++ List.replicate (5 - (lg_sl ([.ref (ad 0), .int link, .int v, .ref o.1])).length) Slot.unset).toArray = ls at hl ⊢
  have hl : lv_has ls 5 [(0, .ref (ad 0)), (1, .int link), (2, .int v), (3, .ref o.1)] := hl
  refine lv_aload_n hx hb dL_setLink_0 rfl (lv_at hl 3 rfl) ?_
  refine lv_iconst (v := nI 0) hx hb dL_setLink_1 (by decide) ?_
  refine lv_aload_n hx hb dL_setLink_2 rfl (lv_at hl 0 rfl) ?_
  refine lv_iload_n hx hb dL_setLink_3 rfl (lv_at hl 1 rfl) ?_
  refine lv_iload_n hx hb dL_setLink_4 rfl (lv_at hl 2 rfl) ?_
  refine wx_calli (vx_runV (As := [.int link, .int v]) (rest := [.int (nI 0), .ref o.1]) ⟨hx, hb, hml, hown, hts⟩ (c_X2_setLink l hlt dd cy ad (xL cy o g d X) tt N u _ n hn hok h_savedCount hsI link v) (cwV 2 hts gL_setLink_X2_setLink rfl rfl rfl hd_X2_setLink ⟨Nat.le_of_ble_eq_true rfl, Nat.le_of_ble_eq_true rfl⟩) (wrX_V hP hK hD hSt hE hS hA (wC_0 cy ad u (xL cy o g d X)) rfl) rfl rfl hl.1 rfl (lv_room (Nat.le_of_ble_eq_true rfl)) dL_setLink_5 ⟨Nat.le_of_ble_eq_true rfl, Nat.le_of_ble_eq_true rfl⟩) hD hS hA (fun E9 ce q9 u9 H locs hxs hpx hP hD hS hce hcv hcl => ?_) (fun r9 u9 H locs hp hP hD hS => ?_)
  · rcases xsE_2 hxs with ⟨hk, hE9⟩ | ⟨hk, hE9⟩
    · subst hE9
      refine vx_catch (own := RL) (name := xIO) hown [] ⟨0, 10, 13, 13⟩ [⟨0, 10, 17, 15⟩] htab (fun _ h9 => absurd h9 List.not_mem_nil) rfl (by decide) (hts (Cond.classLink RL 13 "java/lang/IndexOutOfBoundsException") (List.mem_of_getElem? (i := 1) rfl)) (va_Nw.use rfl hE.2.2.1.2.2.2.1) hce hcv hcl ?_
      refine W.eq (g2 := F0 m 13 ls [.ref q9]) rfl ?_
      refine lv_astore (lv' := [(4, .ref q9), (0, .ref (ad 0)), (1, .int link), (2, .int v), (3, .ref o.1)]) hx hb dL_setLink_13 hl (by decide) rfl (fun ls hl => ?_)
      refine lv_iconst (v := nI 1) hx hb dL_setLink_15 (by decide) ?_
      have hP : va_P dd vwCl (wL cy ad o X (u9, g, d)) H := hP
      have hD : va_D A (wL cy ad o X (u9, g, d)) := hD
      refine W.widen (k := 2) (n := 12) (Nat.le_of_ble_eq_true rfl) (Nat.le_of_ble_eq_true rfl) ?_
      exact W.iret (v := (nI 1)) hx hb hr (fun t ht hW => ⟨⟨(nI 1), (u9, g, d), rfl, ⟨by rw [hk], fun h9 => absurd (hk.symm.trans h9) (Nat.succ_ne_zero _), fun _ => hpx⟩, by rw [ht]; exact hP, va_K.moved hW.alike hK, hD⟩, hS.F ht⟩) hS.2.2 dL_setLink_16
    · subst hE9
      refine vx_catch (own := RL) (name := xIA) hown [⟨0, 10, 13, 13⟩] ⟨0, 10, 17, 15⟩ [] htab (List.forall_mem_cons.mpr ⟨Or.inr ⟨by decide, xIO, hts (Cond.classLink RL 13 "java/lang/IndexOutOfBoundsException") (List.mem_of_getElem? (i := 1) rfl), hN.1⟩, (fun _ h9 => absurd h9 List.not_mem_nil)⟩) rfl (by decide) (hts (Cond.classLink RL 15 "java/lang/IllegalArgumentException") (List.mem_of_getElem? (i := 2) rfl)) (va_Nw.use rfl hE.2.2.1.2.2.2.2.1) hce hcv hcl ?_
      refine W.eq (g2 := F0 m 17 ls [.ref q9]) rfl ?_
      refine lv_astore (lv' := [(4, .ref q9), (0, .ref (ad 0)), (1, .int link), (2, .int v), (3, .ref o.1)]) hx hb dL_setLink_17 hl (by decide) rfl (fun ls hl => ?_)
      refine lv_iconst (v := nI 2) hx hb dL_setLink_19 (by decide) ?_
      have hP : va_P dd vwCl (wL cy ad o X (u9, g, d)) H := hP
      have hD : va_D A (wL cy ad o X (u9, g, d)) := hD
      refine W.widen (k := 2) (n := 12) (Nat.le_of_ble_eq_true rfl) (Nat.le_of_ble_eq_true rfl) ?_
      exact W.iret (v := (nI 2)) hx hb hr (fun t ht hW => ⟨⟨(nI 2), (u9, g, d), rfl, ⟨by rw [hk], fun h9 => absurd (hk.symm.trans h9) (Nat.succ_ne_zero _), fun _ => hpx⟩, by rw [ht]; exact hP, va_K.moved hW.alike hK, hD⟩, hS.F ht⟩) hS.2.2 dL_setLink_20
  refine lv_i2l hx hb dL_setLink_8 rfl ?_
  refine wa_last hx hb hK hP hD hS (wL_57 cy ad o X u9 g d) (t0 := 1) rfl (i := 0) (by decide) (by decide) dL_setLink_9 (wL_s57 cy ad o X u9 g _ d) (fun H locs hP hD hS => ?_)
  refine lv_goto (tgt := 21) hx hb dL_setLink_10 (by decide) ?_
  refine lv_iconst (v := nI 0) hx hb dL_setLink_21 (by decide) ?_
  have hP : va_P dd vwCl (wL cy ad o X (u9, (vp_updL g 0 r9.toInt64), d)) H := hP
  have hD : va_D A (wL cy ad o X (u9, (vp_updL g 0 r9.toInt64), d)) := hD
  refine W.widen (k := 2) (n := 12) (Nat.le_of_ble_eq_true rfl) (Nat.le_of_ble_eq_true rfl) ?_
  exact W.iret (v := (nI 0)) hx hb hr (fun t ht hW => ⟨⟨(nI 0), (u9, (vp_updL g 0 r9.toInt64), d), rfl, lwI_of hp.1 hp.2, by rw [ht]; exact hP, va_K.moved hW.alike hK, hD⟩, hS.F ht⟩) hS.2.2 dL_setLink_22
theorem hd_L_setEdge : yL_setEdge.cls ≠ "java/lang/invoke/MethodHandle" ∧ yL_setEdge.cls ≠ "java/lang/invoke/VarHandle" ∧ (parseMethodDescriptor yL_setEdge.desc).map (fun d => d.parameters.length) = some 4 := by decide +kernel
set_option maxHeartbeats 4000000 in
set_option maxRecDepth 100000 in
/-- L_setEdge -/
theorem c_L_setEdge (l : Launch) (hlt : l.stackTraces = false) (dd : va_G) (cy : Nat → ClassId) (ad : Nat → Nat) (X : va_W) (tt : Nat × Nat) (N : Nat → Nat) (o : Nat × Nat) (u : CS) (g : Nat → Int64) (d : Nat → UInt64) (sz : Nat) (n : Nat) (hn : n ≤ 4) (hok : svOk u.2.2.2.2.2.2) (h_savedCount : nI n = u.2.2.2.1) (hsI : slI u) (point v : Int32) : Met l yL_setEdge wsL_setEdge ({ frames := 8, cells := 2, slots := 12, locals := 125 }) (va_Pc [.ref (ad 0), .int point, .int v, .ref o.1] (wrL dd cy tt N (wL cy ad o X (u, g, d)) sz)) (va_Qi (fun r z9 => lwI (if inR point (nI 0) (nI 11) then (if inR v (nI 0) (nI 1000) then 0 else 2) else 1) u (fun r u9 => r = nw u (24 + point.toNatClampNeg) ∧ svN n u u9 ∧ nw u9 = upd (nw u) (24 + point.toNatClampNeg) v ∧ u9.2.1 24 = u.2.1 24) r z9) (wB dd cy (fun z9 : LZ => wL cy ad o X z9) (va_A (wL cy ad o X (u, g, d)) sz)) (va_A (wL cy ad o X (u, g, d)) sz)) 2 12 (va_A (wL cy ad o X (u, g, d)) sz) := by
  refine wl_ofWH (cc := cL_setEdge) (maxL := 5) (ret := (some .int)) (hh := [(0, 10, 13, 13), (0, 10, 17, 15)]) (by decide) rfl ?_
  intro p e s m args below meth c s₁ B hml hv
  obtain ⟨rfl, hN, ⟨hsz, hP, hK, hD0, hSt⟩, hE⟩ := hv
  have hx := B.exec
  have hb := B.bytes
  have hr := B.returns
  have hts := atoms_spec (ws := wsL_setEdge) B.pre
  have hown : s.vm.findClass RL = some m.cls := findClass_of_methodNamed B.named
  have hlocks := B.notSynchronized
  have htab : c.exceptionTable.toList = [⟨0, 10, 13, 13⟩, ⟨0, 10, 17, 15⟩] := vx_table (x := yL_setEdge) B (hts _ List.mem_cons_self)
  subst hsz
  have hD := hD0.self (sz := s.heap.size)
  generalize hAe : va_A (wL cy ad o X (u, g, d)) s.heap.size = A at hD hSt hE ⊢
  have hA : ∀ q : Nat, s.heap.size ≤ q → A q := fun q h => by rw [← hAe]; exact Or.inr h
  have hS : va_S A s.heap s.heap [] := va_S.rf
  have hP : va_P dd vwCl (wC cy ad u ++ xL cy o g d X) s.heap := hP
  have hD : va_D A (wC cy ad u ++ xL cy o g d X) := hD
  have hl := lv_entry ([.ref (ad 0), .int point, .int v, .ref o.1]) (n := 5) (Nat.le_of_ble_eq_true rfl)
  rw [lg_entry_eq]
  generalize (lg_sl ([.ref (ad 0), .int point, .int v, .ref o.1]) ++ List.replicate (5 - (lg_sl ([.ref (ad 0), .int point, .int v, .ref o.1])).length) Slot.unset).toArray = ls at hl ⊢
  have hl : lv_has ls 5 [(0, .ref (ad 0)), (1, .int point), (2, .int v), (3, .ref o.1)] := hl
  refine lv_aload_n hx hb dL_setEdge_0 rfl (lv_at hl 3 rfl) ?_
  refine lv_iconst (v := nI 0) hx hb dL_setEdge_1 (by decide) ?_
  refine lv_aload_n hx hb dL_setEdge_2 rfl (lv_at hl 0 rfl) ?_
  refine lv_iload_n hx hb dL_setEdge_3 rfl (lv_at hl 1 rfl) ?_
  refine lv_iload_n hx hb dL_setEdge_4 rfl (lv_at hl 2 rfl) ?_
  refine wx_calli (vx_runV (As := [.int point, .int v]) (rest := [.int (nI 0), .ref o.1]) ⟨hx, hb, hml, hown, hts⟩ (c_X2_setEdge l hlt dd cy ad (xL cy o g d X) tt N u _ n hn hok h_savedCount hsI point v) (cwV 2 hts gL_setEdge_X2_setEdge rfl rfl rfl hd_X2_setEdge ⟨Nat.le_of_ble_eq_true rfl, Nat.le_of_ble_eq_true rfl⟩) (wrX_V hP hK hD hSt hE hS hA (wC_0 cy ad u (xL cy o g d X)) rfl) rfl rfl hl.1 rfl (lv_room (Nat.le_of_ble_eq_true rfl)) dL_setEdge_5 ⟨Nat.le_of_ble_eq_true rfl, Nat.le_of_ble_eq_true rfl⟩) hD hS hA (fun E9 ce q9 u9 H locs hxs hpx hP hD hS hce hcv hcl => ?_) (fun r9 u9 H locs hp hP hD hS => ?_)
  · rcases xsE_2 hxs with ⟨hk, hE9⟩ | ⟨hk, hE9⟩
    · subst hE9
      refine vx_catch (own := RL) (name := xIO) hown [] ⟨0, 10, 13, 13⟩ [⟨0, 10, 17, 15⟩] htab (fun _ h9 => absurd h9 List.not_mem_nil) rfl (by decide) (hts (Cond.classLink RL 13 "java/lang/IndexOutOfBoundsException") (List.mem_of_getElem? (i := 1) rfl)) (va_Nw.use rfl hE.2.2.1.2.2.2.1) hce hcv hcl ?_
      refine W.eq (g2 := F0 m 13 ls [.ref q9]) rfl ?_
      refine lv_astore (lv' := [(4, .ref q9), (0, .ref (ad 0)), (1, .int point), (2, .int v), (3, .ref o.1)]) hx hb dL_setEdge_13 hl (by decide) rfl (fun ls hl => ?_)
      refine lv_iconst (v := nI 1) hx hb dL_setEdge_15 (by decide) ?_
      have hP : va_P dd vwCl (wL cy ad o X (u9, g, d)) H := hP
      have hD : va_D A (wL cy ad o X (u9, g, d)) := hD
      refine W.widen (k := 2) (n := 12) (Nat.le_of_ble_eq_true rfl) (Nat.le_of_ble_eq_true rfl) ?_
      exact W.iret (v := (nI 1)) hx hb hr (fun t ht hW => ⟨⟨(nI 1), (u9, g, d), rfl, ⟨by rw [hk], fun h9 => absurd (hk.symm.trans h9) (Nat.succ_ne_zero _), fun _ => hpx⟩, by rw [ht]; exact hP, va_K.moved hW.alike hK, hD⟩, hS.F ht⟩) hS.2.2 dL_setEdge_16
    · subst hE9
      refine vx_catch (own := RL) (name := xIA) hown [⟨0, 10, 13, 13⟩] ⟨0, 10, 17, 15⟩ [] htab (List.forall_mem_cons.mpr ⟨Or.inr ⟨by decide, xIO, hts (Cond.classLink RL 13 "java/lang/IndexOutOfBoundsException") (List.mem_of_getElem? (i := 1) rfl), hN.1⟩, (fun _ h9 => absurd h9 List.not_mem_nil)⟩) rfl (by decide) (hts (Cond.classLink RL 15 "java/lang/IllegalArgumentException") (List.mem_of_getElem? (i := 2) rfl)) (va_Nw.use rfl hE.2.2.1.2.2.2.2.1) hce hcv hcl ?_
      refine W.eq (g2 := F0 m 17 ls [.ref q9]) rfl ?_
      refine lv_astore (lv' := [(4, .ref q9), (0, .ref (ad 0)), (1, .int point), (2, .int v), (3, .ref o.1)]) hx hb dL_setEdge_17 hl (by decide) rfl (fun ls hl => ?_)
      refine lv_iconst (v := nI 2) hx hb dL_setEdge_19 (by decide) ?_
      have hP : va_P dd vwCl (wL cy ad o X (u9, g, d)) H := hP
      have hD : va_D A (wL cy ad o X (u9, g, d)) := hD
      refine W.widen (k := 2) (n := 12) (Nat.le_of_ble_eq_true rfl) (Nat.le_of_ble_eq_true rfl) ?_
      exact W.iret (v := (nI 2)) hx hb hr (fun t ht hW => ⟨⟨(nI 2), (u9, g, d), rfl, ⟨by rw [hk], fun h9 => absurd (hk.symm.trans h9) (Nat.succ_ne_zero _), fun _ => hpx⟩, by rw [ht]; exact hP, va_K.moved hW.alike hK, hD⟩, hS.F ht⟩) hS.2.2 dL_setEdge_20
  refine lv_i2l hx hb dL_setEdge_8 rfl ?_
  refine wa_last hx hb hK hP hD hS (wL_57 cy ad o X u9 g d) (t0 := 1) rfl (i := 0) (by decide) (by decide) dL_setEdge_9 (wL_s57 cy ad o X u9 g _ d) (fun H locs hP hD hS => ?_)
  refine lv_goto (tgt := 21) hx hb dL_setEdge_10 (by decide) ?_
  refine lv_iconst (v := nI 0) hx hb dL_setEdge_21 (by decide) ?_
  have hP : va_P dd vwCl (wL cy ad o X (u9, (vp_updL g 0 r9.toInt64), d)) H := hP
  have hD : va_D A (wL cy ad o X (u9, (vp_updL g 0 r9.toInt64), d)) := hD
  refine W.widen (k := 2) (n := 12) (Nat.le_of_ble_eq_true rfl) (Nat.le_of_ble_eq_true rfl) ?_
  exact W.iret (v := (nI 0)) hx hb hr (fun t ht hW => ⟨⟨(nI 0), (u9, (vp_updL g 0 r9.toInt64), d), rfl, lwI_of hp.1 hp.2, by rw [ht]; exact hP, va_K.moved hW.alike hK, hD⟩, hS.F ht⟩) hS.2.2 dL_setEdge_22
theorem hd_L_setRecharge : yL_setRecharge.cls ≠ "java/lang/invoke/MethodHandle" ∧ yL_setRecharge.cls ≠ "java/lang/invoke/VarHandle" ∧ (parseMethodDescriptor yL_setRecharge.desc).map (fun d => d.parameters.length) = some 4 := by decide +kernel
set_option maxHeartbeats 4000000 in
set_option maxRecDepth 100000 in
/-- L_setRecharge -/
theorem c_L_setRecharge (l : Launch) (hlt : l.stackTraces = false) (dd : va_G) (cy : Nat → ClassId) (ad : Nat → Nat) (X : va_W) (tt : Nat × Nat) (N : Nat → Nat) (o : Nat × Nat) (u : CS) (g : Nat → Int64) (d : Nat → UInt64) (sz : Nat) (n : Nat) (hn : n ≤ 4) (hok : svOk u.2.2.2.2.2.2) (h_savedCount : nI n = u.2.2.2.1) (hsI : slI u) (cell v : Int32) : Met l yL_setRecharge wsL_setRecharge ({ frames := 8, cells := 2, slots := 12, locals := 125 }) (va_Pc [.ref (ad 0), .int cell, .int v, .ref o.1] (wrL dd cy tt N (wL cy ad o X (u, g, d)) sz)) (va_Qi (fun r z9 => lwI (if inR cell (nI 0) (nI 8) then (if inR v (nI 0) (nI 1000) then 0 else 2) else 1) u (fun r u9 => r = nw u (36 + cell.toNatClampNeg) ∧ svN n u u9 ∧ nw u9 = upd (nw u) (36 + cell.toNatClampNeg) v ∧ u9.2.1 24 = u.2.1 24) r z9) (wB dd cy (fun z9 : LZ => wL cy ad o X z9) (va_A (wL cy ad o X (u, g, d)) sz)) (va_A (wL cy ad o X (u, g, d)) sz)) 2 12 (va_A (wL cy ad o X (u, g, d)) sz) := by
  refine wl_ofWH (cc := cL_setRecharge) (maxL := 5) (ret := (some .int)) (hh := [(0, 10, 13, 13), (0, 10, 17, 15)]) (by decide) rfl ?_
  intro p e s m args below meth c s₁ B hml hv
  obtain ⟨rfl, hN, ⟨hsz, hP, hK, hD0, hSt⟩, hE⟩ := hv
  have hx := B.exec
  have hb := B.bytes
  have hr := B.returns
  have hts := atoms_spec (ws := wsL_setRecharge) B.pre
  have hown : s.vm.findClass RL = some m.cls := findClass_of_methodNamed B.named
  have hlocks := B.notSynchronized
  have htab : c.exceptionTable.toList = [⟨0, 10, 13, 13⟩, ⟨0, 10, 17, 15⟩] := vx_table (x := yL_setRecharge) B (hts _ List.mem_cons_self)
  subst hsz
  have hD := hD0.self (sz := s.heap.size)
  generalize hAe : va_A (wL cy ad o X (u, g, d)) s.heap.size = A at hD hSt hE ⊢
  have hA : ∀ q : Nat, s.heap.size ≤ q → A q := fun q h => by rw [← hAe]; exact Or.inr h
  have hS : va_S A s.heap s.heap [] := va_S.rf
  have hP : va_P dd vwCl (wC cy ad u ++ xL cy o g d X) s.heap := hP
  have hD : va_D A (wC cy ad u ++ xL cy o g d X) := hD
  have hl := lv_entry ([.ref (ad 0), .int cell, .int v, .ref o.1]) (n := 5) (Nat.le_of_ble_eq_true rfl)
  rw [lg_entry_eq]
  generalize (lg_sl ([.ref (ad 0), .int cell, .int v, .ref o.1]) ++ List.replicate (5 - (lg_sl ([.ref (ad 0), .int cell, .int v, .ref o.1])).length) Slot.unset).toArray = ls at hl ⊢
  have hl : lv_has ls 5 [(0, .ref (ad 0)), (1, .int cell), (2, .int v), (3, .ref o.1)] := hl
  refine lv_aload_n hx hb dL_setRecharge_0 rfl (lv_at hl 3 rfl) ?_
  refine lv_iconst (v := nI 0) hx hb dL_setRecharge_1 (by decide) ?_
  refine lv_aload_n hx hb dL_setRecharge_2 rfl (lv_at hl 0 rfl) ?_
  refine lv_iload_n hx hb dL_setRecharge_3 rfl (lv_at hl 1 rfl) ?_
  refine lv_iload_n hx hb dL_setRecharge_4 rfl (lv_at hl 2 rfl) ?_
  refine wx_calli (vx_runV (As := [.int cell, .int v]) (rest := [.int (nI 0), .ref o.1]) ⟨hx, hb, hml, hown, hts⟩ (c_X2_setRecharge l hlt dd cy ad (xL cy o g d X) tt N u _ n hn hok h_savedCount hsI cell v) (cwV 2 hts gL_setRecharge_X2_setRecharge rfl rfl rfl hd_X2_setRecharge ⟨Nat.le_of_ble_eq_true rfl, Nat.le_of_ble_eq_true rfl⟩) (wrX_V hP hK hD hSt hE hS hA (wC_0 cy ad u (xL cy o g d X)) rfl) rfl rfl hl.1 rfl (lv_room (Nat.le_of_ble_eq_true rfl)) dL_setRecharge_5 ⟨Nat.le_of_ble_eq_true rfl, Nat.le_of_ble_eq_true rfl⟩) hD hS hA (fun E9 ce q9 u9 H locs hxs hpx hP hD hS hce hcv hcl => ?_) (fun r9 u9 H locs hp hP hD hS => ?_)
  · rcases xsE_2 hxs with ⟨hk, hE9⟩ | ⟨hk, hE9⟩
    · subst hE9
      refine vx_catch (own := RL) (name := xIO) hown [] ⟨0, 10, 13, 13⟩ [⟨0, 10, 17, 15⟩] htab (fun _ h9 => absurd h9 List.not_mem_nil) rfl (by decide) (hts (Cond.classLink RL 13 "java/lang/IndexOutOfBoundsException") (List.mem_of_getElem? (i := 1) rfl)) (va_Nw.use rfl hE.2.2.1.2.2.2.1) hce hcv hcl ?_
      refine W.eq (g2 := F0 m 13 ls [.ref q9]) rfl ?_
      refine lv_astore (lv' := [(4, .ref q9), (0, .ref (ad 0)), (1, .int cell), (2, .int v), (3, .ref o.1)]) hx hb dL_setRecharge_13 hl (by decide) rfl (fun ls hl => ?_)
      refine lv_iconst (v := nI 1) hx hb dL_setRecharge_15 (by decide) ?_
      have hP : va_P dd vwCl (wL cy ad o X (u9, g, d)) H := hP
      have hD : va_D A (wL cy ad o X (u9, g, d)) := hD
      refine W.widen (k := 2) (n := 12) (Nat.le_of_ble_eq_true rfl) (Nat.le_of_ble_eq_true rfl) ?_
      exact W.iret (v := (nI 1)) hx hb hr (fun t ht hW => ⟨⟨(nI 1), (u9, g, d), rfl, ⟨by rw [hk], fun h9 => absurd (hk.symm.trans h9) (Nat.succ_ne_zero _), fun _ => hpx⟩, by rw [ht]; exact hP, va_K.moved hW.alike hK, hD⟩, hS.F ht⟩) hS.2.2 dL_setRecharge_16
    · subst hE9
      refine vx_catch (own := RL) (name := xIA) hown [⟨0, 10, 13, 13⟩] ⟨0, 10, 17, 15⟩ [] htab (List.forall_mem_cons.mpr ⟨Or.inr ⟨by decide, xIO, hts (Cond.classLink RL 13 "java/lang/IndexOutOfBoundsException") (List.mem_of_getElem? (i := 1) rfl), hN.1⟩, (fun _ h9 => absurd h9 List.not_mem_nil)⟩) rfl (by decide) (hts (Cond.classLink RL 15 "java/lang/IllegalArgumentException") (List.mem_of_getElem? (i := 2) rfl)) (va_Nw.use rfl hE.2.2.1.2.2.2.2.1) hce hcv hcl ?_
      refine W.eq (g2 := F0 m 17 ls [.ref q9]) rfl ?_
      refine lv_astore (lv' := [(4, .ref q9), (0, .ref (ad 0)), (1, .int cell), (2, .int v), (3, .ref o.1)]) hx hb dL_setRecharge_17 hl (by decide) rfl (fun ls hl => ?_)
      refine lv_iconst (v := nI 2) hx hb dL_setRecharge_19 (by decide) ?_
      have hP : va_P dd vwCl (wL cy ad o X (u9, g, d)) H := hP
      have hD : va_D A (wL cy ad o X (u9, g, d)) := hD
      refine W.widen (k := 2) (n := 12) (Nat.le_of_ble_eq_true rfl) (Nat.le_of_ble_eq_true rfl) ?_
      exact W.iret (v := (nI 2)) hx hb hr (fun t ht hW => ⟨⟨(nI 2), (u9, g, d), rfl, ⟨by rw [hk], fun h9 => absurd (hk.symm.trans h9) (Nat.succ_ne_zero _), fun _ => hpx⟩, by rw [ht]; exact hP, va_K.moved hW.alike hK, hD⟩, hS.F ht⟩) hS.2.2 dL_setRecharge_20
  refine lv_i2l hx hb dL_setRecharge_8 rfl ?_
  refine wa_last hx hb hK hP hD hS (wL_57 cy ad o X u9 g d) (t0 := 1) rfl (i := 0) (by decide) (by decide) dL_setRecharge_9 (wL_s57 cy ad o X u9 g _ d) (fun H locs hP hD hS => ?_)
  refine lv_goto (tgt := 21) hx hb dL_setRecharge_10 (by decide) ?_
  refine lv_iconst (v := nI 0) hx hb dL_setRecharge_21 (by decide) ?_
  have hP : va_P dd vwCl (wL cy ad o X (u9, (vp_updL g 0 r9.toInt64), d)) H := hP
  have hD : va_D A (wL cy ad o X (u9, (vp_updL g 0 r9.toInt64), d)) := hD
  refine W.widen (k := 2) (n := 12) (Nat.le_of_ble_eq_true rfl) (Nat.le_of_ble_eq_true rfl) ?_
  exact W.iret (v := (nI 0)) hx hb hr (fun t ht hW => ⟨⟨(nI 0), (u9, (vp_updL g 0 r9.toInt64), d), rfl, lwI_of hp.1 hp.2, by rw [ht]; exact hP, va_K.moved hW.alike hK, hD⟩, hS.F ht⟩) hS.2.2 dL_setRecharge_22
theorem hd_L_setRate : yL_setRate.cls ≠ "java/lang/invoke/MethodHandle" ∧ yL_setRate.cls ≠ "java/lang/invoke/VarHandle" ∧ (parseMethodDescriptor yL_setRate.desc).map (fun d => d.parameters.length) = some 4 := by decide +kernel
set_option maxHeartbeats 4000000 in
set_option maxRecDepth 100000 in
/-- L_setRate -/
theorem c_L_setRate (l : Launch) (hlt : l.stackTraces = false) (dd : va_G) (cy : Nat → ClassId) (ad : Nat → Nat) (X : va_W) (tt : Nat × Nat) (N : Nat → Nat) (o : Nat × Nat) (u : CS) (g : Nat → Int64) (d : Nat → UInt64) (sz : Nat) (n : Nat) (hn : n ≤ 4) (hok : svOk u.2.2.2.2.2.2) (h_savedCount : nI n = u.2.2.2.1) (hsI : slI u) (cell v : Int32) : Met l yL_setRate wsL_setRate ({ frames := 8, cells := 2, slots := 12, locals := 125 }) (va_Pc [.ref (ad 0), .int cell, .int v, .ref o.1] (wrL dd cy tt N (wL cy ad o X (u, g, d)) sz)) (va_Qi (fun r z9 => lwI (if inR cell (nI 0) (nI 8) then (if inR v (nI 0) (nI 1000) then 0 else 2) else 1) u (fun r u9 => r = nw u (45 + cell.toNatClampNeg) ∧ svN n u u9 ∧ nw u9 = upd (nw u) (45 + cell.toNatClampNeg) v ∧ u9.2.1 24 = u.2.1 24) r z9) (wB dd cy (fun z9 : LZ => wL cy ad o X z9) (va_A (wL cy ad o X (u, g, d)) sz)) (va_A (wL cy ad o X (u, g, d)) sz)) 2 12 (va_A (wL cy ad o X (u, g, d)) sz) := by
  refine wl_ofWH (cc := cL_setRate) (maxL := 5) (ret := (some .int)) (hh := [(0, 10, 13, 13), (0, 10, 17, 15)]) (by decide) rfl ?_
  intro p e s m args below meth c s₁ B hml hv
  obtain ⟨rfl, hN, ⟨hsz, hP, hK, hD0, hSt⟩, hE⟩ := hv
  have hx := B.exec
  have hb := B.bytes
  have hr := B.returns
  have hts := atoms_spec (ws := wsL_setRate) B.pre
  have hown : s.vm.findClass RL = some m.cls := findClass_of_methodNamed B.named
  have hlocks := B.notSynchronized
  have htab : c.exceptionTable.toList = [⟨0, 10, 13, 13⟩, ⟨0, 10, 17, 15⟩] := vx_table (x := yL_setRate) B (hts _ List.mem_cons_self)
  subst hsz
  have hD := hD0.self (sz := s.heap.size)
  generalize hAe : va_A (wL cy ad o X (u, g, d)) s.heap.size = A at hD hSt hE ⊢
  have hA : ∀ q : Nat, s.heap.size ≤ q → A q := fun q h => by rw [← hAe]; exact Or.inr h
  have hS : va_S A s.heap s.heap [] := va_S.rf
  have hP : va_P dd vwCl (wC cy ad u ++ xL cy o g d X) s.heap := hP
  have hD : va_D A (wC cy ad u ++ xL cy o g d X) := hD
  have hl := lv_entry ([.ref (ad 0), .int cell, .int v, .ref o.1]) (n := 5) (Nat.le_of_ble_eq_true rfl)
  rw [lg_entry_eq]
  generalize (lg_sl ([.ref (ad 0), .int cell, .int v, .ref o.1]) ++ List.replicate (5 - (lg_sl ([.ref (ad 0), .int cell, .int v, .ref o.1])).length) Slot.unset).toArray = ls at hl ⊢
  have hl : lv_has ls 5 [(0, .ref (ad 0)), (1, .int cell), (2, .int v), (3, .ref o.1)] := hl
  refine lv_aload_n hx hb dL_setRate_0 rfl (lv_at hl 3 rfl) ?_
  refine lv_iconst (v := nI 0) hx hb dL_setRate_1 (by decide) ?_
  refine lv_aload_n hx hb dL_setRate_2 rfl (lv_at hl 0 rfl) ?_
  refine lv_iload_n hx hb dL_setRate_3 rfl (lv_at hl 1 rfl) ?_
  refine lv_iload_n hx hb dL_setRate_4 rfl (lv_at hl 2 rfl) ?_
  refine wx_calli (vx_runV (As := [.int cell, .int v]) (rest := [.int (nI 0), .ref o.1]) ⟨hx, hb, hml, hown, hts⟩ (c_X2_setRate l hlt dd cy ad (xL cy o g d X) tt N u _ n hn hok h_savedCount hsI cell v) (cwV 2 hts gL_setRate_X2_setRate rfl rfl rfl hd_X2_setRate ⟨Nat.le_of_ble_eq_true rfl, Nat.le_of_ble_eq_true rfl⟩) (wrX_V hP hK hD hSt hE hS hA (wC_0 cy ad u (xL cy o g d X)) rfl) rfl rfl hl.1 rfl (lv_room (Nat.le_of_ble_eq_true rfl)) dL_setRate_5 ⟨Nat.le_of_ble_eq_true rfl, Nat.le_of_ble_eq_true rfl⟩) hD hS hA (fun E9 ce q9 u9 H locs hxs hpx hP hD hS hce hcv hcl => ?_) (fun r9 u9 H locs hp hP hD hS => ?_)
  · rcases xsE_2 hxs with ⟨hk, hE9⟩ | ⟨hk, hE9⟩
    · subst hE9
      refine vx_catch (own := RL) (name := xIO) hown [] ⟨0, 10, 13, 13⟩ [⟨0, 10, 17, 15⟩] htab (fun _ h9 => absurd h9 List.not_mem_nil) rfl (by decide) (hts (Cond.classLink RL 13 "java/lang/IndexOutOfBoundsException") (List.mem_of_getElem? (i := 1) rfl)) (va_Nw.use rfl hE.2.2.1.2.2.2.1) hce hcv hcl ?_
      refine W.eq (g2 := F0 m 13 ls [.ref q9]) rfl ?_
      refine lv_astore (lv' := [(4, .ref q9), (0, .ref (ad 0)), (1, .int cell), (2, .int v), (3, .ref o.1)]) hx hb dL_setRate_13 hl (by decide) rfl (fun ls hl => ?_)
      refine lv_iconst (v := nI 1) hx hb dL_setRate_15 (by decide) ?_
      have hP : va_P dd vwCl (wL cy ad o X (u9, g, d)) H := hP
      have hD : va_D A (wL cy ad o X (u9, g, d)) := hD
      refine W.widen (k := 2) (n := 12) (Nat.le_of_ble_eq_true rfl) (Nat.le_of_ble_eq_true rfl) ?_
      exact W.iret (v := (nI 1)) hx hb hr (fun t ht hW => ⟨⟨(nI 1), (u9, g, d), rfl, ⟨by rw [hk], fun h9 => absurd (hk.symm.trans h9) (Nat.succ_ne_zero _), fun _ => hpx⟩, by rw [ht]; exact hP, va_K.moved hW.alike hK, hD⟩, hS.F ht⟩) hS.2.2 dL_setRate_16
    · subst hE9
      refine vx_catch (own := RL) (name := xIA) hown [⟨0, 10, 13, 13⟩] ⟨0, 10, 17, 15⟩ [] htab (List.forall_mem_cons.mpr ⟨Or.inr ⟨by decide, xIO, hts (Cond.classLink RL 13 "java/lang/IndexOutOfBoundsException") (List.mem_of_getElem? (i := 1) rfl), hN.1⟩, (fun _ h9 => absurd h9 List.not_mem_nil)⟩) rfl (by decide) (hts (Cond.classLink RL 15 "java/lang/IllegalArgumentException") (List.mem_of_getElem? (i := 2) rfl)) (va_Nw.use rfl hE.2.2.1.2.2.2.2.1) hce hcv hcl ?_
      refine W.eq (g2 := F0 m 17 ls [.ref q9]) rfl ?_
      refine lv_astore (lv' := [(4, .ref q9), (0, .ref (ad 0)), (1, .int cell), (2, .int v), (3, .ref o.1)]) hx hb dL_setRate_17 hl (by decide) rfl (fun ls hl => ?_)
      refine lv_iconst (v := nI 2) hx hb dL_setRate_19 (by decide) ?_
      have hP : va_P dd vwCl (wL cy ad o X (u9, g, d)) H := hP
      have hD : va_D A (wL cy ad o X (u9, g, d)) := hD
      refine W.widen (k := 2) (n := 12) (Nat.le_of_ble_eq_true rfl) (Nat.le_of_ble_eq_true rfl) ?_
      exact W.iret (v := (nI 2)) hx hb hr (fun t ht hW => ⟨⟨(nI 2), (u9, g, d), rfl, ⟨by rw [hk], fun h9 => absurd (hk.symm.trans h9) (Nat.succ_ne_zero _), fun _ => hpx⟩, by rw [ht]; exact hP, va_K.moved hW.alike hK, hD⟩, hS.F ht⟩) hS.2.2 dL_setRate_20
  refine lv_i2l hx hb dL_setRate_8 rfl ?_
  refine wa_last hx hb hK hP hD hS (wL_57 cy ad o X u9 g d) (t0 := 1) rfl (i := 0) (by decide) (by decide) dL_setRate_9 (wL_s57 cy ad o X u9 g _ d) (fun H locs hP hD hS => ?_)
  refine lv_goto (tgt := 21) hx hb dL_setRate_10 (by decide) ?_
  refine lv_iconst (v := nI 0) hx hb dL_setRate_21 (by decide) ?_
  have hP : va_P dd vwCl (wL cy ad o X (u9, (vp_updL g 0 r9.toInt64), d)) H := hP
  have hD : va_D A (wL cy ad o X (u9, (vp_updL g 0 r9.toInt64), d)) := hD
  refine W.widen (k := 2) (n := 12) (Nat.le_of_ble_eq_true rfl) (Nat.le_of_ble_eq_true rfl) ?_
  exact W.iret (v := (nI 0)) hx hb hr (fun t ht hW => ⟨⟨(nI 0), (u9, (vp_updL g 0 r9.toInt64), d), rfl, lwI_of hp.1 hp.2, by rw [ht]; exact hP, va_K.moved hW.alike hK, hD⟩, hS.F ht⟩) hS.2.2 dL_setRate_22
theorem hd_L_setLevels : yL_setLevels.cls ≠ "java/lang/invoke/MethodHandle" ∧ yL_setLevels.cls ≠ "java/lang/invoke/VarHandle" ∧ (parseMethodDescriptor yL_setLevels.desc).map (fun d => d.parameters.length) = some 5 := by decide +kernel
set_option maxHeartbeats 4000000 in
set_option maxRecDepth 100000 in
/-- L_setLevels -/
theorem c_L_setLevels (l : Launch) (hlt : l.stackTraces = false) (dd : va_G) (cy : Nat → ClassId) (ad : Nat → Nat) (X : va_W) (tt : Nat × Nat) (N : Nat → Nat) (o : Nat × Nat) (u : CS) (g : Nat → Int64) (d : Nat → UInt64) (sz : Nat) (n : Nat) (hn : n ≤ 4) (hok : svOk u.2.2.2.2.2.2) (h_savedCount : nI n = u.2.2.2.1) (hsI : slI u) (cell v v2 : Int32) : Met l yL_setLevels wsL_setLevels ({ frames := 8, cells := 3, slots := 18, locals := 126 }) (va_Pc [.ref (ad 0), .int cell, .int v, .int v2, .ref o.1] (wrL dd cy tt N (wL cy ad o X (u, g, d)) sz)) (va_Qi (fun r z9 => lwI (if inR cell (nI 0) (nI 8) then (if inR v (nI 0) (nI 1000) && inR v2 (nI 0) (nI 1000) then 0 else 2) else 1) u (fun r u9 => r = nw u (63 + cell.toNatClampNeg) ∧ svN n u u9 ∧ nw u9 = upd (upd (nw u) (63 + cell.toNatClampNeg) v2) (54 + cell.toNatClampNeg) v ∧ u9.2.1 24 = u.2.1 24) r z9) (wB dd cy (fun z9 : LZ => wL cy ad o X z9) (va_A (wL cy ad o X (u, g, d)) sz)) (va_A (wL cy ad o X (u, g, d)) sz)) 3 18 (va_A (wL cy ad o X (u, g, d)) sz) := by
  refine wl_ofWH (cc := cL_setLevels) (maxL := 6) (ret := (some .int)) (hh := [(0, 12, 15, 13), (0, 12, 19, 15)]) (by decide) rfl ?_
  intro p e s m args below meth c s₁ B hml hv
  obtain ⟨rfl, hN, ⟨hsz, hP, hK, hD0, hSt⟩, hE⟩ := hv
  have hx := B.exec
  have hb := B.bytes
  have hr := B.returns
  have hts := atoms_spec (ws := wsL_setLevels) B.pre
  have hown : s.vm.findClass RL = some m.cls := findClass_of_methodNamed B.named
  have hlocks := B.notSynchronized
  have htab : c.exceptionTable.toList = [⟨0, 12, 15, 13⟩, ⟨0, 12, 19, 15⟩] := vx_table (x := yL_setLevels) B (hts _ List.mem_cons_self)
  subst hsz
  have hD := hD0.self (sz := s.heap.size)
  generalize hAe : va_A (wL cy ad o X (u, g, d)) s.heap.size = A at hD hSt hE ⊢
  have hA : ∀ q : Nat, s.heap.size ≤ q → A q := fun q h => by rw [← hAe]; exact Or.inr h
  have hS : va_S A s.heap s.heap [] := va_S.rf
  have hP : va_P dd vwCl (wC cy ad u ++ xL cy o g d X) s.heap := hP
  have hD : va_D A (wC cy ad u ++ xL cy o g d X) := hD
  have hl := lv_entry ([.ref (ad 0), .int cell, .int v, .int v2, .ref o.1]) (n := 6) (Nat.le_of_ble_eq_true rfl)
  rw [lg_entry_eq]
  generalize (lg_sl ([.ref (ad 0), .int cell, .int v, .int v2, .ref o.1]) ++ List.replicate (6 - (lg_sl ([.ref (ad 0), .int cell, .int v, .int v2, .ref o.1])).length) Slot.unset).toArray = ls at hl ⊢
  have hl : lv_has ls 6 [(0, .ref (ad 0)), (1, .int cell), (2, .int v), (3, .int v2), (4, .ref o.1)] := hl
  refine lv_aload hx hb dL_setLevels_0 (lv_at hl 4 rfl) ?_
  refine lv_iconst (v := nI 0) hx hb dL_setLevels_2 (by decide) ?_
  refine lv_aload_n hx hb dL_setLevels_3 rfl (lv_at hl 0 rfl) ?_
  refine lv_iload_n hx hb dL_setLevels_4 rfl (lv_at hl 1 rfl) ?_
  refine lv_iload_n hx hb dL_setLevels_5 rfl (lv_at hl 2 rfl) ?_
  refine lv_iload_n hx hb dL_setLevels_6 rfl (lv_at hl 3 rfl) ?_
  refine wx_calli (vx_runV (As := [.int cell, .int v, .int v2]) (rest := [.int (nI 0), .ref o.1]) ⟨hx, hb, hml, hown, hts⟩ (c_X2_setLevels l hlt dd cy ad (xL cy o g d X) tt N u _ n hn hok h_savedCount hsI cell v v2) (cwV 3 hts gL_setLevels_X2_setLevels rfl rfl rfl hd_X2_setLevels ⟨Nat.le_of_ble_eq_true rfl, Nat.le_of_ble_eq_true rfl⟩) (wrX_V hP hK hD hSt hE hS hA (wC_0 cy ad u (xL cy o g d X)) rfl) rfl rfl hl.1 rfl (lv_room (Nat.le_of_ble_eq_true rfl)) dL_setLevels_7 ⟨Nat.le_of_ble_eq_true rfl, Nat.le_of_ble_eq_true rfl⟩) hD hS hA (fun E9 ce q9 u9 H locs hxs hpx hP hD hS hce hcv hcl => ?_) (fun r9 u9 H locs hp hP hD hS => ?_)
  · rcases xsE_2 hxs with ⟨hk, hE9⟩ | ⟨hk, hE9⟩
    · subst hE9
      refine vx_catch (own := RL) (name := xIO) hown [] ⟨0, 12, 15, 13⟩ [⟨0, 12, 19, 15⟩] htab (fun _ h9 => absurd h9 List.not_mem_nil) rfl (by decide) (hts (Cond.classLink RL 13 "java/lang/IndexOutOfBoundsException") (List.mem_of_getElem? (i := 1) rfl)) (va_Nw.use rfl hE.2.2.1.2.2.2.1) hce hcv hcl ?_
      refine W.eq (g2 := F0 m 15 ls [.ref q9]) rfl ?_
      refine lv_astore (lv' := [(5, .ref q9), (0, .ref (ad 0)), (1, .int cell), (2, .int v), (3, .int v2), (4, .ref o.1)]) hx hb dL_setLevels_15 hl (by decide) rfl (fun ls hl => ?_)
      refine lv_iconst (v := nI 1) hx hb dL_setLevels_17 (by decide) ?_
      have hP : va_P dd vwCl (wL cy ad o X (u9, g, d)) H := hP
      have hD : va_D A (wL cy ad o X (u9, g, d)) := hD
      refine W.widen (k := 3) (n := 18) (Nat.le_of_ble_eq_true rfl) (Nat.le_of_ble_eq_true rfl) ?_
      exact W.iret (v := (nI 1)) hx hb hr (fun t ht hW => ⟨⟨(nI 1), (u9, g, d), rfl, ⟨by rw [hk], fun h9 => absurd (hk.symm.trans h9) (Nat.succ_ne_zero _), fun _ => hpx⟩, by rw [ht]; exact hP, va_K.moved hW.alike hK, hD⟩, hS.F ht⟩) hS.2.2 dL_setLevels_18
    · subst hE9
      refine vx_catch (own := RL) (name := xIA) hown [⟨0, 12, 15, 13⟩] ⟨0, 12, 19, 15⟩ [] htab (List.forall_mem_cons.mpr ⟨Or.inr ⟨by decide, xIO, hts (Cond.classLink RL 13 "java/lang/IndexOutOfBoundsException") (List.mem_of_getElem? (i := 1) rfl), hN.1⟩, (fun _ h9 => absurd h9 List.not_mem_nil)⟩) rfl (by decide) (hts (Cond.classLink RL 15 "java/lang/IllegalArgumentException") (List.mem_of_getElem? (i := 2) rfl)) (va_Nw.use rfl hE.2.2.1.2.2.2.2.1) hce hcv hcl ?_
      refine W.eq (g2 := F0 m 19 ls [.ref q9]) rfl ?_
      refine lv_astore (lv' := [(5, .ref q9), (0, .ref (ad 0)), (1, .int cell), (2, .int v), (3, .int v2), (4, .ref o.1)]) hx hb dL_setLevels_19 hl (by decide) rfl (fun ls hl => ?_)
      refine lv_iconst (v := nI 2) hx hb dL_setLevels_21 (by decide) ?_
      have hP : va_P dd vwCl (wL cy ad o X (u9, g, d)) H := hP
      have hD : va_D A (wL cy ad o X (u9, g, d)) := hD
      refine W.widen (k := 3) (n := 18) (Nat.le_of_ble_eq_true rfl) (Nat.le_of_ble_eq_true rfl) ?_
      exact W.iret (v := (nI 2)) hx hb hr (fun t ht hW => ⟨⟨(nI 2), (u9, g, d), rfl, ⟨by rw [hk], fun h9 => absurd (hk.symm.trans h9) (Nat.succ_ne_zero _), fun _ => hpx⟩, by rw [ht]; exact hP, va_K.moved hW.alike hK, hD⟩, hS.F ht⟩) hS.2.2 dL_setLevels_22
  refine lv_i2l hx hb dL_setLevels_10 rfl ?_
  refine wa_last hx hb hK hP hD hS (wL_57 cy ad o X u9 g d) (t0 := 1) rfl (i := 0) (by decide) (by decide) dL_setLevels_11 (wL_s57 cy ad o X u9 g _ d) (fun H locs hP hD hS => ?_)
  refine lv_goto (tgt := 23) hx hb dL_setLevels_12 (by decide) ?_
  refine lv_iconst (v := nI 0) hx hb dL_setLevels_23 (by decide) ?_
  have hP : va_P dd vwCl (wL cy ad o X (u9, (vp_updL g 0 r9.toInt64), d)) H := hP
  have hD : va_D A (wL cy ad o X (u9, (vp_updL g 0 r9.toInt64), d)) := hD
  refine W.widen (k := 3) (n := 18) (Nat.le_of_ble_eq_true rfl) (Nat.le_of_ble_eq_true rfl) ?_
  exact W.iret (v := (nI 0)) hx hb hr (fun t ht hW => ⟨⟨(nI 0), (u9, (vp_updL g 0 r9.toInt64), d), rfl, lwI_of hp.1 hp.2, by rw [ht]; exact hP, va_K.moved hW.alike hK, hD⟩, hS.F ht⟩) hS.2.2 dL_setLevels_24
theorem hd_L_head : yL_head.cls ≠ "java/lang/invoke/MethodHandle" ∧ yL_head.cls ≠ "java/lang/invoke/VarHandle" ∧ (parseMethodDescriptor yL_head.desc).map (fun d => d.parameters.length) = some 4 := by decide +kernel
set_option maxHeartbeats 4000000 in
set_option maxRecDepth 100000 in
/-- L_head -/
theorem c_L_head (l : Launch) (hlt : l.stackTraces = false) (dd : va_G) (cy : Nat → ClassId) (ad : Nat → Nat) (X : va_W) (tt : Nat × Nat) (N : Nat → Nat) (o : Nat × Nat) (u : CS) (g : Nat → Int64) (d : Nat → UInt64) (sz : Nat) (hrg : rgM (nw u)) (hsI : slI u) (cell part : Int32) : Met l yL_head wsL_head ({ frames := 8, cells := 3, slots := 18, locals := 139 }) (va_Pc [.ref (ad 0), .int cell, .int part, .ref o.1] (wrL dd cy tt N (wL cy ad o X (u, g, d)) sz)) (va_Qi (fun r z9 => lwJ (lkT (inR cell (nI 0) (nI 8)) part (lsN (nw u))) u (fun r u9 => frP u u9 ∧ r = ptF (nw u) ((cn (nw u)).2.2.1 9 cell.toNatClampNeg) part) r z9) (wB dd cy (fun z9 : LZ => wL cy ad o X z9) (va_A (wL cy ad o X (u, g, d)) sz)) (va_A (wL cy ad o X (u, g, d)) sz)) 3 18 (va_A (wL cy ad o X (u, g, d)) sz) := by
  refine wl_ofWH (cc := cL_head) (maxL := 5) (ret := (some .int)) (hh := [(0, 9, 12, 13), (0, 9, 16, 15), (0, 9, 20, 34)]) (by decide) rfl ?_
  intro p e s m args below meth c s₁ B hml hv
  obtain ⟨rfl, hN, ⟨hsz, hP, hK, hD0, hSt⟩, hE⟩ := hv
  have hx := B.exec
  have hb := B.bytes
  have hr := B.returns
  have hts := atoms_spec (ws := wsL_head) B.pre
  have hown : s.vm.findClass RL = some m.cls := findClass_of_methodNamed B.named
  have hlocks := B.notSynchronized
  have htab : c.exceptionTable.toList = [⟨0, 9, 12, 13⟩, ⟨0, 9, 16, 15⟩, ⟨0, 9, 20, 34⟩] := vx_table (x := yL_head) B (hts _ List.mem_cons_self)
  subst hsz
  have hD := hD0.self (sz := s.heap.size)
  generalize hAe : va_A (wL cy ad o X (u, g, d)) s.heap.size = A at hD hSt hE ⊢
  have hA : ∀ q : Nat, s.heap.size ≤ q → A q := fun q h => by rw [← hAe]; exact Or.inr h
  have hS : va_S A s.heap s.heap [] := va_S.rf
  have hP : va_P dd vwCl (wC cy ad u ++ xL cy o g d X) s.heap := hP
  have hD : va_D A (wC cy ad u ++ xL cy o g d X) := hD
  have hl := lv_entry ([.ref (ad 0), .int cell, .int part, .ref o.1]) (n := 5) (Nat.le_of_ble_eq_true rfl)
  rw [lg_entry_eq]
  generalize (lg_sl ([.ref (ad 0), .int cell, .int part, .ref o.1]) ++ List.replicate (5 - (lg_sl ([.ref (ad 0), .int cell, .int part, .ref o.1])).length) Slot.unset).toArray = ls at hl ⊢
  have hl : lv_has ls 5 [(0, .ref (ad 0)), (1, .int cell), (2, .int part), (3, .ref o.1)] := hl
  refine lv_aload_n hx hb dL_head_0 rfl (lv_at hl 3 rfl) ?_
  refine lv_iconst (v := nI 0) hx hb dL_head_1 (by decide) ?_
  refine lv_aload_n hx hb dL_head_2 rfl (lv_at hl 0 rfl) ?_
  refine lv_iload_n hx hb dL_head_3 rfl (lv_at hl 1 rfl) ?_
  refine lv_iload_n hx hb dL_head_4 rfl (lv_at hl 2 rfl) ?_
  refine wx_calll (vx_runV (As := [.int cell, .int part]) (rest := [.int (nI 0), .ref o.1]) ⟨hx, hb, hml, hown, hts⟩ (c_X2_head l hlt dd cy ad (xL cy o g d X) tt N u _ hrg hsI cell part) (cwV 2 hts gL_head_X2_head rfl rfl rfl hd_X2_head ⟨Nat.le_of_ble_eq_true rfl, Nat.le_of_ble_eq_true rfl⟩) (wrX_V hP hK hD hSt hE hS hA (wC_0 cy ad u (xL cy o g d X)) rfl) rfl rfl hl.1 rfl (lv_room (Nat.le_of_ble_eq_true rfl)) dL_head_5 ⟨Nat.le_of_ble_eq_true rfl, Nat.le_of_ble_eq_true rfl⟩) hD hS hA (fun E9 ce q9 u9 H locs hxs hpx hP hD hS hce hcv hcl => ?_) (fun r9 u9 H locs hp hP hD hS => ?_)
  · rcases xsE_3 hxs with ⟨hk, hE9⟩ | ⟨hk, hE9⟩ | ⟨hk, hE9⟩
    · subst hE9
      refine vx_catch (own := RL) (name := xIO) hown [] ⟨0, 9, 12, 13⟩ [⟨0, 9, 16, 15⟩, ⟨0, 9, 20, 34⟩] htab (fun _ h9 => absurd h9 List.not_mem_nil) rfl (by decide) (hts (Cond.classLink RL 13 "java/lang/IndexOutOfBoundsException") (List.mem_of_getElem? (i := 1) rfl)) (va_Nw.use rfl hE.2.2.1.2.2.2.1) hce hcv hcl ?_
      refine W.eq (g2 := F0 m 12 ls [.ref q9]) rfl ?_
      refine lv_astore (lv' := [(4, .ref q9), (0, .ref (ad 0)), (1, .int cell), (2, .int part), (3, .ref o.1)]) hx hb dL_head_12 hl (by decide) rfl (fun ls hl => ?_)
      refine lv_iconst (v := nI 1) hx hb dL_head_14 (by decide) ?_
      have hP : va_P dd vwCl (wL cy ad o X (u9, g, d)) H := hP
      have hD : va_D A (wL cy ad o X (u9, g, d)) := hD
      refine W.widen (k := 3) (n := 18) (Nat.le_of_ble_eq_true rfl) (Nat.le_of_ble_eq_true rfl) ?_
      exact W.iret (v := (nI 1)) hx hb hr (fun t ht hW => ⟨⟨(nI 1), (u9, g, d), rfl, ⟨by rw [hk], fun h9 => absurd (hk.symm.trans h9) (Nat.succ_ne_zero _), fun _ => hpx⟩, by rw [ht]; exact hP, va_K.moved hW.alike hK, hD⟩, hS.F ht⟩) hS.2.2 dL_head_15
    · subst hE9
      refine vx_catch (own := RL) (name := xIA) hown [⟨0, 9, 12, 13⟩] ⟨0, 9, 16, 15⟩ [⟨0, 9, 20, 34⟩] htab (List.forall_mem_cons.mpr ⟨Or.inr ⟨by decide, xIO, hts (Cond.classLink RL 13 "java/lang/IndexOutOfBoundsException") (List.mem_of_getElem? (i := 1) rfl), hN.1⟩, (fun _ h9 => absurd h9 List.not_mem_nil)⟩) rfl (by decide) (hts (Cond.classLink RL 15 "java/lang/IllegalArgumentException") (List.mem_of_getElem? (i := 2) rfl)) (va_Nw.use rfl hE.2.2.1.2.2.2.2.1) hce hcv hcl ?_
      refine W.eq (g2 := F0 m 16 ls [.ref q9]) rfl ?_
      refine lv_astore (lv' := [(4, .ref q9), (0, .ref (ad 0)), (1, .int cell), (2, .int part), (3, .ref o.1)]) hx hb dL_head_16 hl (by decide) rfl (fun ls hl => ?_)
      refine lv_iconst (v := nI 2) hx hb dL_head_18 (by decide) ?_
      have hP : va_P dd vwCl (wL cy ad o X (u9, g, d)) H := hP
      have hD : va_D A (wL cy ad o X (u9, g, d)) := hD
      refine W.widen (k := 3) (n := 18) (Nat.le_of_ble_eq_true rfl) (Nat.le_of_ble_eq_true rfl) ?_
      exact W.iret (v := (nI 2)) hx hb hr (fun t ht hW => ⟨⟨(nI 2), (u9, g, d), rfl, ⟨by rw [hk], fun h9 => absurd (hk.symm.trans h9) (Nat.succ_ne_zero _), fun _ => hpx⟩, by rw [ht]; exact hP, va_K.moved hW.alike hK, hD⟩, hS.F ht⟩) hS.2.2 dL_head_19
    · subst hE9
      refine vx_catch (own := RL) (name := xAE) hown [⟨0, 9, 12, 13⟩, ⟨0, 9, 16, 15⟩] ⟨0, 9, 20, 34⟩ [] htab (List.forall_mem_cons.mpr ⟨Or.inr ⟨by decide, xIO, hts (Cond.classLink RL 13 "java/lang/IndexOutOfBoundsException") (List.mem_of_getElem? (i := 1) rfl), hN.2.1⟩, (List.forall_mem_cons.mpr ⟨Or.inr ⟨by decide, xIA, hts (Cond.classLink RL 15 "java/lang/IllegalArgumentException") (List.mem_of_getElem? (i := 2) rfl), hN.2.2⟩, (fun _ h9 => absurd h9 List.not_mem_nil)⟩)⟩) rfl (by decide) (hts (Cond.classLink RL 34 "java/lang/ArithmeticException") (List.mem_of_getElem? (i := 3) rfl)) (va_Nw.use rfl hE.2.2.1.2.2.2.2.2.1) hce hcv hcl ?_
      refine W.eq (g2 := F0 m 20 ls [.ref q9]) rfl ?_
      refine lv_astore (lv' := [(4, .ref q9), (0, .ref (ad 0)), (1, .int cell), (2, .int part), (3, .ref o.1)]) hx hb dL_head_20 hl (by decide) rfl (fun ls hl => ?_)
      refine lv_iconst (v := nI 3) hx hb dL_head_22 (by decide) ?_
      have hP : va_P dd vwCl (wL cy ad o X (u9, g, d)) H := hP
      have hD : va_D A (wL cy ad o X (u9, g, d)) := hD
      refine W.widen (k := 3) (n := 18) (Nat.le_of_ble_eq_true rfl) (Nat.le_of_ble_eq_true rfl) ?_
      exact W.iret (v := (nI 3)) hx hb hr (fun t ht hW => ⟨⟨(nI 3), (u9, g, d), rfl, ⟨by rw [hk], fun h9 => absurd (hk.symm.trans h9) (Nat.succ_ne_zero _), fun _ => hpx⟩, by rw [ht]; exact hP, va_K.moved hW.alike hK, hD⟩, hS.F ht⟩) hS.2.2 dL_head_23
  refine wa_last hx hb hK hP hD hS (wL_57 cy ad o X u9 g d) (t0 := 1) rfl (i := 0) (by decide) (by decide) dL_head_8 (wL_s57 cy ad o X u9 g _ d) (fun H locs hP hD hS => ?_)
  refine lv_goto (tgt := 24) hx hb dL_head_9 (by decide) ?_
  refine lv_iconst (v := nI 0) hx hb dL_head_24 (by decide) ?_
  have hP : va_P dd vwCl (wL cy ad o X (u9, (vp_updL g 0 r9), d)) H := hP
  have hD : va_D A (wL cy ad o X (u9, (vp_updL g 0 r9), d)) := hD
  refine W.widen (k := 3) (n := 18) (Nat.le_of_ble_eq_true rfl) (Nat.le_of_ble_eq_true rfl) ?_
  exact W.iret (v := (nI 0)) hx hb hr (fun t ht hW => ⟨⟨(nI 0), (u9, (vp_updL g 0 r9), d), rfl, lwJ_of hp.1 hp.2, by rw [ht]; exact hP, va_K.moved hW.alike hK, hD⟩, hS.F ht⟩) hS.2.2 dL_head_25
theorem hd_L_flow : yL_flow.cls ≠ "java/lang/invoke/MethodHandle" ∧ yL_flow.cls ≠ "java/lang/invoke/VarHandle" ∧ (parseMethodDescriptor yL_flow.desc).map (fun d => d.parameters.length) = some 4 := by decide +kernel
set_option maxHeartbeats 4000000 in
set_option maxRecDepth 100000 in
/-- L_flow -/
theorem c_L_flow (l : Launch) (hlt : l.stackTraces = false) (dd : va_G) (cy : Nat → ClassId) (ad : Nat → Nat) (X : va_W) (tt : Nat × Nat) (N : Nat → Nat) (o : Nat × Nat) (u : CS) (g : Nat → Int64) (d : Nat → UInt64) (sz : Nat) (hrg : rgM (nw u)) (hsI : slI u) (link part : Int32) : Met l yL_flow wsL_flow ({ frames := 8, cells := 3, slots := 18, locals := 139 }) (va_Pc [.ref (ad 0), .int link, .int part, .ref o.1] (wrL dd cy tt N (wL cy ad o X (u, g, d)) sz)) (va_Qi (fun r z9 => lwJ (lkT (inR link (nI 0) (nI 23)) part (lsN (nw u))) u (fun r u9 => frP u u9 ∧ r = ptF (nw u) (flM (cn (nw u)) link.toNatClampNeg) part) r z9) (wB dd cy (fun z9 : LZ => wL cy ad o X z9) (va_A (wL cy ad o X (u, g, d)) sz)) (va_A (wL cy ad o X (u, g, d)) sz)) 3 18 (va_A (wL cy ad o X (u, g, d)) sz) := by
  refine wl_ofWH (cc := cL_flow) (maxL := 5) (ret := (some .int)) (hh := [(0, 9, 12, 13), (0, 9, 16, 15), (0, 9, 20, 34)]) (by decide) rfl ?_
  intro p e s m args below meth c s₁ B hml hv
  obtain ⟨rfl, hN, ⟨hsz, hP, hK, hD0, hSt⟩, hE⟩ := hv
  have hx := B.exec
  have hb := B.bytes
  have hr := B.returns
  have hts := atoms_spec (ws := wsL_flow) B.pre
  have hown : s.vm.findClass RL = some m.cls := findClass_of_methodNamed B.named
  have hlocks := B.notSynchronized
  have htab : c.exceptionTable.toList = [⟨0, 9, 12, 13⟩, ⟨0, 9, 16, 15⟩, ⟨0, 9, 20, 34⟩] := vx_table (x := yL_flow) B (hts _ List.mem_cons_self)
  subst hsz
  have hD := hD0.self (sz := s.heap.size)
  generalize hAe : va_A (wL cy ad o X (u, g, d)) s.heap.size = A at hD hSt hE ⊢
  have hA : ∀ q : Nat, s.heap.size ≤ q → A q := fun q h => by rw [← hAe]; exact Or.inr h
  have hS : va_S A s.heap s.heap [] := va_S.rf
  have hP : va_P dd vwCl (wC cy ad u ++ xL cy o g d X) s.heap := hP
  have hD : va_D A (wC cy ad u ++ xL cy o g d X) := hD
  have hl := lv_entry ([.ref (ad 0), .int link, .int part, .ref o.1]) (n := 5) (Nat.le_of_ble_eq_true rfl)
  rw [lg_entry_eq]
  generalize (lg_sl ([.ref (ad 0), .int link, .int part, .ref o.1]) ++ List.replicate (5 - (lg_sl ([.ref (ad 0), .int link, .int part, .ref o.1])).length) Slot.unset).toArray = ls at hl ⊢
  have hl : lv_has ls 5 [(0, .ref (ad 0)), (1, .int link), (2, .int part), (3, .ref o.1)] := hl
  refine lv_aload_n hx hb dL_flow_0 rfl (lv_at hl 3 rfl) ?_
  refine lv_iconst (v := nI 0) hx hb dL_flow_1 (by decide) ?_
  refine lv_aload_n hx hb dL_flow_2 rfl (lv_at hl 0 rfl) ?_
  refine lv_iload_n hx hb dL_flow_3 rfl (lv_at hl 1 rfl) ?_
  refine lv_iload_n hx hb dL_flow_4 rfl (lv_at hl 2 rfl) ?_
  refine wx_calll (vx_runV (As := [.int link, .int part]) (rest := [.int (nI 0), .ref o.1]) ⟨hx, hb, hml, hown, hts⟩ (c_X2_flow l hlt dd cy ad (xL cy o g d X) tt N u _ hrg hsI link part) (cwV 2 hts gL_flow_X2_flow rfl rfl rfl hd_X2_flow ⟨Nat.le_of_ble_eq_true rfl, Nat.le_of_ble_eq_true rfl⟩) (wrX_V hP hK hD hSt hE hS hA (wC_0 cy ad u (xL cy o g d X)) rfl) rfl rfl hl.1 rfl (lv_room (Nat.le_of_ble_eq_true rfl)) dL_flow_5 ⟨Nat.le_of_ble_eq_true rfl, Nat.le_of_ble_eq_true rfl⟩) hD hS hA (fun E9 ce q9 u9 H locs hxs hpx hP hD hS hce hcv hcl => ?_) (fun r9 u9 H locs hp hP hD hS => ?_)
  · rcases xsE_3 hxs with ⟨hk, hE9⟩ | ⟨hk, hE9⟩ | ⟨hk, hE9⟩
    · subst hE9
      refine vx_catch (own := RL) (name := xIO) hown [] ⟨0, 9, 12, 13⟩ [⟨0, 9, 16, 15⟩, ⟨0, 9, 20, 34⟩] htab (fun _ h9 => absurd h9 List.not_mem_nil) rfl (by decide) (hts (Cond.classLink RL 13 "java/lang/IndexOutOfBoundsException") (List.mem_of_getElem? (i := 1) rfl)) (va_Nw.use rfl hE.2.2.1.2.2.2.1) hce hcv hcl ?_
      refine W.eq (g2 := F0 m 12 ls [.ref q9]) rfl ?_
      refine lv_astore (lv' := [(4, .ref q9), (0, .ref (ad 0)), (1, .int link), (2, .int part), (3, .ref o.1)]) hx hb dL_flow_12 hl (by decide) rfl (fun ls hl => ?_)
      refine lv_iconst (v := nI 1) hx hb dL_flow_14 (by decide) ?_
      have hP : va_P dd vwCl (wL cy ad o X (u9, g, d)) H := hP
      have hD : va_D A (wL cy ad o X (u9, g, d)) := hD
      refine W.widen (k := 3) (n := 18) (Nat.le_of_ble_eq_true rfl) (Nat.le_of_ble_eq_true rfl) ?_
      exact W.iret (v := (nI 1)) hx hb hr (fun t ht hW => ⟨⟨(nI 1), (u9, g, d), rfl, ⟨by rw [hk], fun h9 => absurd (hk.symm.trans h9) (Nat.succ_ne_zero _), fun _ => hpx⟩, by rw [ht]; exact hP, va_K.moved hW.alike hK, hD⟩, hS.F ht⟩) hS.2.2 dL_flow_15
    · subst hE9
      refine vx_catch (own := RL) (name := xIA) hown [⟨0, 9, 12, 13⟩] ⟨0, 9, 16, 15⟩ [⟨0, 9, 20, 34⟩] htab (List.forall_mem_cons.mpr ⟨Or.inr ⟨by decide, xIO, hts (Cond.classLink RL 13 "java/lang/IndexOutOfBoundsException") (List.mem_of_getElem? (i := 1) rfl), hN.1⟩, (fun _ h9 => absurd h9 List.not_mem_nil)⟩) rfl (by decide) (hts (Cond.classLink RL 15 "java/lang/IllegalArgumentException") (List.mem_of_getElem? (i := 2) rfl)) (va_Nw.use rfl hE.2.2.1.2.2.2.2.1) hce hcv hcl ?_
      refine W.eq (g2 := F0 m 16 ls [.ref q9]) rfl ?_
      refine lv_astore (lv' := [(4, .ref q9), (0, .ref (ad 0)), (1, .int link), (2, .int part), (3, .ref o.1)]) hx hb dL_flow_16 hl (by decide) rfl (fun ls hl => ?_)
      refine lv_iconst (v := nI 2) hx hb dL_flow_18 (by decide) ?_
      have hP : va_P dd vwCl (wL cy ad o X (u9, g, d)) H := hP
      have hD : va_D A (wL cy ad o X (u9, g, d)) := hD
      refine W.widen (k := 3) (n := 18) (Nat.le_of_ble_eq_true rfl) (Nat.le_of_ble_eq_true rfl) ?_
      exact W.iret (v := (nI 2)) hx hb hr (fun t ht hW => ⟨⟨(nI 2), (u9, g, d), rfl, ⟨by rw [hk], fun h9 => absurd (hk.symm.trans h9) (Nat.succ_ne_zero _), fun _ => hpx⟩, by rw [ht]; exact hP, va_K.moved hW.alike hK, hD⟩, hS.F ht⟩) hS.2.2 dL_flow_19
    · subst hE9
      refine vx_catch (own := RL) (name := xAE) hown [⟨0, 9, 12, 13⟩, ⟨0, 9, 16, 15⟩] ⟨0, 9, 20, 34⟩ [] htab (List.forall_mem_cons.mpr ⟨Or.inr ⟨by decide, xIO, hts (Cond.classLink RL 13 "java/lang/IndexOutOfBoundsException") (List.mem_of_getElem? (i := 1) rfl), hN.2.1⟩, (List.forall_mem_cons.mpr ⟨Or.inr ⟨by decide, xIA, hts (Cond.classLink RL 15 "java/lang/IllegalArgumentException") (List.mem_of_getElem? (i := 2) rfl), hN.2.2⟩, (fun _ h9 => absurd h9 List.not_mem_nil)⟩)⟩) rfl (by decide) (hts (Cond.classLink RL 34 "java/lang/ArithmeticException") (List.mem_of_getElem? (i := 3) rfl)) (va_Nw.use rfl hE.2.2.1.2.2.2.2.2.1) hce hcv hcl ?_
      refine W.eq (g2 := F0 m 20 ls [.ref q9]) rfl ?_
      refine lv_astore (lv' := [(4, .ref q9), (0, .ref (ad 0)), (1, .int link), (2, .int part), (3, .ref o.1)]) hx hb dL_flow_20 hl (by decide) rfl (fun ls hl => ?_)
      refine lv_iconst (v := nI 3) hx hb dL_flow_22 (by decide) ?_
      have hP : va_P dd vwCl (wL cy ad o X (u9, g, d)) H := hP
      have hD : va_D A (wL cy ad o X (u9, g, d)) := hD
      refine W.widen (k := 3) (n := 18) (Nat.le_of_ble_eq_true rfl) (Nat.le_of_ble_eq_true rfl) ?_
      exact W.iret (v := (nI 3)) hx hb hr (fun t ht hW => ⟨⟨(nI 3), (u9, g, d), rfl, ⟨by rw [hk], fun h9 => absurd (hk.symm.trans h9) (Nat.succ_ne_zero _), fun _ => hpx⟩, by rw [ht]; exact hP, va_K.moved hW.alike hK, hD⟩, hS.F ht⟩) hS.2.2 dL_flow_23
  refine wa_last hx hb hK hP hD hS (wL_57 cy ad o X u9 g d) (t0 := 1) rfl (i := 0) (by decide) (by decide) dL_flow_8 (wL_s57 cy ad o X u9 g _ d) (fun H locs hP hD hS => ?_)
  refine lv_goto (tgt := 24) hx hb dL_flow_9 (by decide) ?_
  refine lv_iconst (v := nI 0) hx hb dL_flow_24 (by decide) ?_
  have hP : va_P dd vwCl (wL cy ad o X (u9, (vp_updL g 0 r9), d)) H := hP
  have hD : va_D A (wL cy ad o X (u9, (vp_updL g 0 r9), d)) := hD
  refine W.widen (k := 3) (n := 18) (Nat.le_of_ble_eq_true rfl) (Nat.le_of_ble_eq_true rfl) ?_
  exact W.iret (v := (nI 0)) hx hb hr (fun t ht hW => ⟨⟨(nI 0), (u9, (vp_updL g 0 r9), d), rfl, lwJ_of hp.1 hp.2, by rw [ht]; exact hP, va_K.moved hW.alike hK, hD⟩, hS.F ht⟩) hS.2.2 dL_flow_25
theorem hd_L_inflow : yL_inflow.cls ≠ "java/lang/invoke/MethodHandle" ∧ yL_inflow.cls ≠ "java/lang/invoke/VarHandle" ∧ (parseMethodDescriptor yL_inflow.desc).map (fun d => d.parameters.length) = some 4 := by decide +kernel
set_option maxHeartbeats 4000000 in
set_option maxRecDepth 100000 in
/-- L_inflow -/
theorem c_L_inflow (l : Launch) (hlt : l.stackTraces = false) (dd : va_G) (cy : Nat → ClassId) (ad : Nat → Nat) (X : va_W) (tt : Nat × Nat) (N : Nat → Nat) (o : Nat × Nat) (u : CS) (g : Nat → Int64) (d : Nat → UInt64) (sz : Nat) (hrg : rgM (nw u)) (hsI : slI u) (side part : Int32) : Met l yL_inflow wsL_inflow ({ frames := 8, cells := 3, slots := 18, locals := 139 }) (va_Pc [.ref (ad 0), .int side, .int part, .ref o.1] (wrL dd cy tt N (wL cy ad o X (u, g, d)) sz)) (va_Qi (fun r z9 => lwJ (lkT (inR side (nI 0) (nI 3)) part (lsN (nw u))) u (fun r u9 => frP u u9 ∧ r = ptF (nw u) (ifM (cn (nw u)) side.toNatClampNeg) part) r z9) (wB dd cy (fun z9 : LZ => wL cy ad o X z9) (va_A (wL cy ad o X (u, g, d)) sz)) (va_A (wL cy ad o X (u, g, d)) sz)) 3 18 (va_A (wL cy ad o X (u, g, d)) sz) := by
  refine wl_ofWH (cc := cL_inflow) (maxL := 5) (ret := (some .int)) (hh := [(0, 9, 12, 13), (0, 9, 16, 15), (0, 9, 20, 34)]) (by decide) rfl ?_
  intro p e s m args below meth c s₁ B hml hv
  obtain ⟨rfl, hN, ⟨hsz, hP, hK, hD0, hSt⟩, hE⟩ := hv
  have hx := B.exec
  have hb := B.bytes
  have hr := B.returns
  have hts := atoms_spec (ws := wsL_inflow) B.pre
  have hown : s.vm.findClass RL = some m.cls := findClass_of_methodNamed B.named
  have hlocks := B.notSynchronized
  have htab : c.exceptionTable.toList = [⟨0, 9, 12, 13⟩, ⟨0, 9, 16, 15⟩, ⟨0, 9, 20, 34⟩] := vx_table (x := yL_inflow) B (hts _ List.mem_cons_self)
  subst hsz
  have hD := hD0.self (sz := s.heap.size)
  generalize hAe : va_A (wL cy ad o X (u, g, d)) s.heap.size = A at hD hSt hE ⊢
  have hA : ∀ q : Nat, s.heap.size ≤ q → A q := fun q h => by rw [← hAe]; exact Or.inr h
  have hS : va_S A s.heap s.heap [] := va_S.rf
  have hP : va_P dd vwCl (wC cy ad u ++ xL cy o g d X) s.heap := hP
  have hD : va_D A (wC cy ad u ++ xL cy o g d X) := hD
  have hl := lv_entry ([.ref (ad 0), .int side, .int part, .ref o.1]) (n := 5) (Nat.le_of_ble_eq_true rfl)
  rw [lg_entry_eq]
  generalize (lg_sl ([.ref (ad 0), .int side, .int part, .ref o.1]) ++ List.replicate (5 - (lg_sl ([.ref (ad 0), .int side, .int part, .ref o.1])).length) Slot.unset).toArray = ls at hl ⊢
  have hl : lv_has ls 5 [(0, .ref (ad 0)), (1, .int side), (2, .int part), (3, .ref o.1)] := hl
  refine lv_aload_n hx hb dL_inflow_0 rfl (lv_at hl 3 rfl) ?_
  refine lv_iconst (v := nI 0) hx hb dL_inflow_1 (by decide) ?_
  refine lv_aload_n hx hb dL_inflow_2 rfl (lv_at hl 0 rfl) ?_
  refine lv_iload_n hx hb dL_inflow_3 rfl (lv_at hl 1 rfl) ?_
  refine lv_iload_n hx hb dL_inflow_4 rfl (lv_at hl 2 rfl) ?_
  refine wx_calll (vx_runV (As := [.int side, .int part]) (rest := [.int (nI 0), .ref o.1]) ⟨hx, hb, hml, hown, hts⟩ (c_X2_inflow l hlt dd cy ad (xL cy o g d X) tt N u _ hrg hsI side part) (cwV 2 hts gL_inflow_X2_inflow rfl rfl rfl hd_X2_inflow ⟨Nat.le_of_ble_eq_true rfl, Nat.le_of_ble_eq_true rfl⟩) (wrX_V hP hK hD hSt hE hS hA (wC_0 cy ad u (xL cy o g d X)) rfl) rfl rfl hl.1 rfl (lv_room (Nat.le_of_ble_eq_true rfl)) dL_inflow_5 ⟨Nat.le_of_ble_eq_true rfl, Nat.le_of_ble_eq_true rfl⟩) hD hS hA (fun E9 ce q9 u9 H locs hxs hpx hP hD hS hce hcv hcl => ?_) (fun r9 u9 H locs hp hP hD hS => ?_)
  · rcases xsE_3 hxs with ⟨hk, hE9⟩ | ⟨hk, hE9⟩ | ⟨hk, hE9⟩
    · subst hE9
      refine vx_catch (own := RL) (name := xIO) hown [] ⟨0, 9, 12, 13⟩ [⟨0, 9, 16, 15⟩, ⟨0, 9, 20, 34⟩] htab (fun _ h9 => absurd h9 List.not_mem_nil) rfl (by decide) (hts (Cond.classLink RL 13 "java/lang/IndexOutOfBoundsException") (List.mem_of_getElem? (i := 1) rfl)) (va_Nw.use rfl hE.2.2.1.2.2.2.1) hce hcv hcl ?_
      refine W.eq (g2 := F0 m 12 ls [.ref q9]) rfl ?_
      refine lv_astore (lv' := [(4, .ref q9), (0, .ref (ad 0)), (1, .int side), (2, .int part), (3, .ref o.1)]) hx hb dL_inflow_12 hl (by decide) rfl (fun ls hl => ?_)
      refine lv_iconst (v := nI 1) hx hb dL_inflow_14 (by decide) ?_
      have hP : va_P dd vwCl (wL cy ad o X (u9, g, d)) H := hP
      have hD : va_D A (wL cy ad o X (u9, g, d)) := hD
      refine W.widen (k := 3) (n := 18) (Nat.le_of_ble_eq_true rfl) (Nat.le_of_ble_eq_true rfl) ?_
      exact W.iret (v := (nI 1)) hx hb hr (fun t ht hW => ⟨⟨(nI 1), (u9, g, d), rfl, ⟨by rw [hk], fun h9 => absurd (hk.symm.trans h9) (Nat.succ_ne_zero _), fun _ => hpx⟩, by rw [ht]; exact hP, va_K.moved hW.alike hK, hD⟩, hS.F ht⟩) hS.2.2 dL_inflow_15
    · subst hE9
      refine vx_catch (own := RL) (name := xIA) hown [⟨0, 9, 12, 13⟩] ⟨0, 9, 16, 15⟩ [⟨0, 9, 20, 34⟩] htab (List.forall_mem_cons.mpr ⟨Or.inr ⟨by decide, xIO, hts (Cond.classLink RL 13 "java/lang/IndexOutOfBoundsException") (List.mem_of_getElem? (i := 1) rfl), hN.1⟩, (fun _ h9 => absurd h9 List.not_mem_nil)⟩) rfl (by decide) (hts (Cond.classLink RL 15 "java/lang/IllegalArgumentException") (List.mem_of_getElem? (i := 2) rfl)) (va_Nw.use rfl hE.2.2.1.2.2.2.2.1) hce hcv hcl ?_
      refine W.eq (g2 := F0 m 16 ls [.ref q9]) rfl ?_
      refine lv_astore (lv' := [(4, .ref q9), (0, .ref (ad 0)), (1, .int side), (2, .int part), (3, .ref o.1)]) hx hb dL_inflow_16 hl (by decide) rfl (fun ls hl => ?_)
      refine lv_iconst (v := nI 2) hx hb dL_inflow_18 (by decide) ?_
      have hP : va_P dd vwCl (wL cy ad o X (u9, g, d)) H := hP
      have hD : va_D A (wL cy ad o X (u9, g, d)) := hD
      refine W.widen (k := 3) (n := 18) (Nat.le_of_ble_eq_true rfl) (Nat.le_of_ble_eq_true rfl) ?_
      exact W.iret (v := (nI 2)) hx hb hr (fun t ht hW => ⟨⟨(nI 2), (u9, g, d), rfl, ⟨by rw [hk], fun h9 => absurd (hk.symm.trans h9) (Nat.succ_ne_zero _), fun _ => hpx⟩, by rw [ht]; exact hP, va_K.moved hW.alike hK, hD⟩, hS.F ht⟩) hS.2.2 dL_inflow_19
    · subst hE9
      refine vx_catch (own := RL) (name := xAE) hown [⟨0, 9, 12, 13⟩, ⟨0, 9, 16, 15⟩] ⟨0, 9, 20, 34⟩ [] htab (List.forall_mem_cons.mpr ⟨Or.inr ⟨by decide, xIO, hts (Cond.classLink RL 13 "java/lang/IndexOutOfBoundsException") (List.mem_of_getElem? (i := 1) rfl), hN.2.1⟩, (List.forall_mem_cons.mpr ⟨Or.inr ⟨by decide, xIA, hts (Cond.classLink RL 15 "java/lang/IllegalArgumentException") (List.mem_of_getElem? (i := 2) rfl), hN.2.2⟩, (fun _ h9 => absurd h9 List.not_mem_nil)⟩)⟩) rfl (by decide) (hts (Cond.classLink RL 34 "java/lang/ArithmeticException") (List.mem_of_getElem? (i := 3) rfl)) (va_Nw.use rfl hE.2.2.1.2.2.2.2.2.1) hce hcv hcl ?_
      refine W.eq (g2 := F0 m 20 ls [.ref q9]) rfl ?_
      refine lv_astore (lv' := [(4, .ref q9), (0, .ref (ad 0)), (1, .int side), (2, .int part), (3, .ref o.1)]) hx hb dL_inflow_20 hl (by decide) rfl (fun ls hl => ?_)
      refine lv_iconst (v := nI 3) hx hb dL_inflow_22 (by decide) ?_
      have hP : va_P dd vwCl (wL cy ad o X (u9, g, d)) H := hP
      have hD : va_D A (wL cy ad o X (u9, g, d)) := hD
      refine W.widen (k := 3) (n := 18) (Nat.le_of_ble_eq_true rfl) (Nat.le_of_ble_eq_true rfl) ?_
      exact W.iret (v := (nI 3)) hx hb hr (fun t ht hW => ⟨⟨(nI 3), (u9, g, d), rfl, ⟨by rw [hk], fun h9 => absurd (hk.symm.trans h9) (Nat.succ_ne_zero _), fun _ => hpx⟩, by rw [ht]; exact hP, va_K.moved hW.alike hK, hD⟩, hS.F ht⟩) hS.2.2 dL_inflow_23
  refine wa_last hx hb hK hP hD hS (wL_57 cy ad o X u9 g d) (t0 := 1) rfl (i := 0) (by decide) (by decide) dL_inflow_8 (wL_s57 cy ad o X u9 g _ d) (fun H locs hP hD hS => ?_)
  refine lv_goto (tgt := 24) hx hb dL_inflow_9 (by decide) ?_
  refine lv_iconst (v := nI 0) hx hb dL_inflow_24 (by decide) ?_
  have hP : va_P dd vwCl (wL cy ad o X (u9, (vp_updL g 0 r9), d)) H := hP
  have hD : va_D A (wL cy ad o X (u9, (vp_updL g 0 r9), d)) := hD
  refine W.widen (k := 3) (n := 18) (Nat.le_of_ble_eq_true rfl) (Nat.le_of_ble_eq_true rfl) ?_
  exact W.iret (v := (nI 0)) hx hb hr (fun t ht hW => ⟨⟨(nI 0), (u9, (vp_updL g 0 r9), d), rfl, lwJ_of hp.1 hp.2, by rw [ht]; exact hP, va_K.moved hW.alike hK, hD⟩, hS.F ht⟩) hS.2.2 dL_inflow_25
theorem hd_L_influence : yL_influence.cls ≠ "java/lang/invoke/MethodHandle" ∧ yL_influence.cls ≠ "java/lang/invoke/VarHandle" ∧ (parseMethodDescriptor yL_influence.desc).map (fun d => d.parameters.length) = some 5 := by decide +kernel
set_option maxHeartbeats 4000000 in
set_option maxRecDepth 100000 in
/-- L_influence -/
theorem c_L_influence (l : Launch) (hlt : l.stackTraces = false) (dd : va_G) (cy : Nat → ClassId) (ad : Nat → Nat) (X : va_W) (tt : Nat × Nat) (N : Nat → Nat) (o : Nat × Nat) (u : CS) (g : Nat → Int64) (d : Nat → UInt64) (sz : Nat) (hrg : rgM (nw u)) (hsI : slI u) (i j part : Int32) : Met l yL_influence wsL_influence ({ frames := 8, cells := 4, slots := 24, locals := 140 }) (va_Pc [.ref (ad 0), .int i, .int j, .int part, .ref o.1] (wrL dd cy tt N (wL cy ad o X (u, g, d)) sz)) (va_Qi (fun r z9 => lwJ (lkT (inR i (nI 0) (nI 8) && inR j (nI 0) (nI 8)) part (lsN (nw u))) u (fun r u9 => frP u u9 ∧ r = ptF (nw u) ((cn (nw u)).2.2.1 8 (9 * i.toNatClampNeg + j.toNatClampNeg)) part) r z9) (wB dd cy (fun z9 : LZ => wL cy ad o X z9) (va_A (wL cy ad o X (u, g, d)) sz)) (va_A (wL cy ad o X (u, g, d)) sz)) 4 24 (va_A (wL cy ad o X (u, g, d)) sz) := by
  refine wl_ofWH (cc := cL_influence) (maxL := 6) (ret := (some .int)) (hh := [(0, 11, 14, 13), (0, 11, 18, 15), (0, 11, 22, 34)]) (by decide) rfl ?_
  intro p e s m args below meth c s₁ B hml hv
  obtain ⟨rfl, hN, ⟨hsz, hP, hK, hD0, hSt⟩, hE⟩ := hv
  have hx := B.exec
  have hb := B.bytes
  have hr := B.returns
  have hts := atoms_spec (ws := wsL_influence) B.pre
  have hown : s.vm.findClass RL = some m.cls := findClass_of_methodNamed B.named
  have hlocks := B.notSynchronized
  have htab : c.exceptionTable.toList = [⟨0, 11, 14, 13⟩, ⟨0, 11, 18, 15⟩, ⟨0, 11, 22, 34⟩] := vx_table (x := yL_influence) B (hts _ List.mem_cons_self)
  subst hsz
  have hD := hD0.self (sz := s.heap.size)
  generalize hAe : va_A (wL cy ad o X (u, g, d)) s.heap.size = A at hD hSt hE ⊢
  have hA : ∀ q : Nat, s.heap.size ≤ q → A q := fun q h => by rw [← hAe]; exact Or.inr h
  have hS : va_S A s.heap s.heap [] := va_S.rf
  have hP : va_P dd vwCl (wC cy ad u ++ xL cy o g d X) s.heap := hP
  have hD : va_D A (wC cy ad u ++ xL cy o g d X) := hD
  have hl := lv_entry ([.ref (ad 0), .int i, .int j, .int part, .ref o.1]) (n := 6) (Nat.le_of_ble_eq_true rfl)
  rw [lg_entry_eq]
  generalize (lg_sl ([.ref (ad 0), .int i, .int j, .int part, .ref o.1]) ++ List.replicate (6 - (lg_sl ([.ref (ad 0), .int i, .int j, .int part, .ref o.1])).length) Slot.unset).toArray = ls at hl ⊢
  have hl : lv_has ls 6 [(0, .ref (ad 0)), (1, .int i), (2, .int j), (3, .int part), (4, .ref o.1)] := hl
  refine lv_aload hx hb dL_influence_0 (lv_at hl 4 rfl) ?_
  refine lv_iconst (v := nI 0) hx hb dL_influence_2 (by decide) ?_
  refine lv_aload_n hx hb dL_influence_3 rfl (lv_at hl 0 rfl) ?_
  refine lv_iload_n hx hb dL_influence_4 rfl (lv_at hl 1 rfl) ?_
  refine lv_iload_n hx hb dL_influence_5 rfl (lv_at hl 2 rfl) ?_
  refine lv_iload_n hx hb dL_influence_6 rfl (lv_at hl 3 rfl) ?_
  refine wx_calll (vx_runV (As := [.int i, .int j, .int part]) (rest := [.int (nI 0), .ref o.1]) ⟨hx, hb, hml, hown, hts⟩ (c_X2_influence l hlt dd cy ad (xL cy o g d X) tt N u _ hrg hsI i j part) (cwV 3 hts gL_influence_X2_influence rfl rfl rfl hd_X2_influence ⟨Nat.le_of_ble_eq_true rfl, Nat.le_of_ble_eq_true rfl⟩) (wrX_V hP hK hD hSt hE hS hA (wC_0 cy ad u (xL cy o g d X)) rfl) rfl rfl hl.1 rfl (lv_room (Nat.le_of_ble_eq_true rfl)) dL_influence_7 ⟨Nat.le_of_ble_eq_true rfl, Nat.le_of_ble_eq_true rfl⟩) hD hS hA (fun E9 ce q9 u9 H locs hxs hpx hP hD hS hce hcv hcl => ?_) (fun r9 u9 H locs hp hP hD hS => ?_)
  · rcases xsE_3 hxs with ⟨hk, hE9⟩ | ⟨hk, hE9⟩ | ⟨hk, hE9⟩
    · subst hE9
      refine vx_catch (own := RL) (name := xIO) hown [] ⟨0, 11, 14, 13⟩ [⟨0, 11, 18, 15⟩, ⟨0, 11, 22, 34⟩] htab (fun _ h9 => absurd h9 List.not_mem_nil) rfl (by decide) (hts (Cond.classLink RL 13 "java/lang/IndexOutOfBoundsException") (List.mem_of_getElem? (i := 1) rfl)) (va_Nw.use rfl hE.2.2.1.2.2.2.1) hce hcv hcl ?_
      refine W.eq (g2 := F0 m 14 ls [.ref q9]) rfl ?_
      refine lv_astore (lv' := [(5, .ref q9), (0, .ref (ad 0)), (1, .int i), (2, .int j), (3, .int part), (4, .ref o.1)]) hx hb dL_influence_14 hl (by decide) rfl (fun ls hl => ?_)
      refine lv_iconst (v := nI 1) hx hb dL_influence_16 (by decide) ?_
      have hP : va_P dd vwCl (wL cy ad o X (u9, g, d)) H := hP
      have hD : va_D A (wL cy ad o X (u9, g, d)) := hD
      refine W.widen (k := 4) (n := 24) (Nat.le_of_ble_eq_true rfl) (Nat.le_of_ble_eq_true rfl) ?_
      exact W.iret (v := (nI 1)) hx hb hr (fun t ht hW => ⟨⟨(nI 1), (u9, g, d), rfl, ⟨by rw [hk], fun h9 => absurd (hk.symm.trans h9) (Nat.succ_ne_zero _), fun _ => hpx⟩, by rw [ht]; exact hP, va_K.moved hW.alike hK, hD⟩, hS.F ht⟩) hS.2.2 dL_influence_17
    · subst hE9
      refine vx_catch (own := RL) (name := xIA) hown [⟨0, 11, 14, 13⟩] ⟨0, 11, 18, 15⟩ [⟨0, 11, 22, 34⟩] htab (List.forall_mem_cons.mpr ⟨Or.inr ⟨by decide, xIO, hts (Cond.classLink RL 13 "java/lang/IndexOutOfBoundsException") (List.mem_of_getElem? (i := 1) rfl), hN.1⟩, (fun _ h9 => absurd h9 List.not_mem_nil)⟩) rfl (by decide) (hts (Cond.classLink RL 15 "java/lang/IllegalArgumentException") (List.mem_of_getElem? (i := 2) rfl)) (va_Nw.use rfl hE.2.2.1.2.2.2.2.1) hce hcv hcl ?_
      refine W.eq (g2 := F0 m 18 ls [.ref q9]) rfl ?_
      refine lv_astore (lv' := [(5, .ref q9), (0, .ref (ad 0)), (1, .int i), (2, .int j), (3, .int part), (4, .ref o.1)]) hx hb dL_influence_18 hl (by decide) rfl (fun ls hl => ?_)
      refine lv_iconst (v := nI 2) hx hb dL_influence_20 (by decide) ?_
      have hP : va_P dd vwCl (wL cy ad o X (u9, g, d)) H := hP
      have hD : va_D A (wL cy ad o X (u9, g, d)) := hD
      refine W.widen (k := 4) (n := 24) (Nat.le_of_ble_eq_true rfl) (Nat.le_of_ble_eq_true rfl) ?_
      exact W.iret (v := (nI 2)) hx hb hr (fun t ht hW => ⟨⟨(nI 2), (u9, g, d), rfl, ⟨by rw [hk], fun h9 => absurd (hk.symm.trans h9) (Nat.succ_ne_zero _), fun _ => hpx⟩, by rw [ht]; exact hP, va_K.moved hW.alike hK, hD⟩, hS.F ht⟩) hS.2.2 dL_influence_21
    · subst hE9
      refine vx_catch (own := RL) (name := xAE) hown [⟨0, 11, 14, 13⟩, ⟨0, 11, 18, 15⟩] ⟨0, 11, 22, 34⟩ [] htab (List.forall_mem_cons.mpr ⟨Or.inr ⟨by decide, xIO, hts (Cond.classLink RL 13 "java/lang/IndexOutOfBoundsException") (List.mem_of_getElem? (i := 1) rfl), hN.2.1⟩, (List.forall_mem_cons.mpr ⟨Or.inr ⟨by decide, xIA, hts (Cond.classLink RL 15 "java/lang/IllegalArgumentException") (List.mem_of_getElem? (i := 2) rfl), hN.2.2⟩, (fun _ h9 => absurd h9 List.not_mem_nil)⟩)⟩) rfl (by decide) (hts (Cond.classLink RL 34 "java/lang/ArithmeticException") (List.mem_of_getElem? (i := 3) rfl)) (va_Nw.use rfl hE.2.2.1.2.2.2.2.2.1) hce hcv hcl ?_
      refine W.eq (g2 := F0 m 22 ls [.ref q9]) rfl ?_
      refine lv_astore (lv' := [(5, .ref q9), (0, .ref (ad 0)), (1, .int i), (2, .int j), (3, .int part), (4, .ref o.1)]) hx hb dL_influence_22 hl (by decide) rfl (fun ls hl => ?_)
      refine lv_iconst (v := nI 3) hx hb dL_influence_24 (by decide) ?_
      have hP : va_P dd vwCl (wL cy ad o X (u9, g, d)) H := hP
      have hD : va_D A (wL cy ad o X (u9, g, d)) := hD
      refine W.widen (k := 4) (n := 24) (Nat.le_of_ble_eq_true rfl) (Nat.le_of_ble_eq_true rfl) ?_
      exact W.iret (v := (nI 3)) hx hb hr (fun t ht hW => ⟨⟨(nI 3), (u9, g, d), rfl, ⟨by rw [hk], fun h9 => absurd (hk.symm.trans h9) (Nat.succ_ne_zero _), fun _ => hpx⟩, by rw [ht]; exact hP, va_K.moved hW.alike hK, hD⟩, hS.F ht⟩) hS.2.2 dL_influence_25
  refine wa_last hx hb hK hP hD hS (wL_57 cy ad o X u9 g d) (t0 := 1) rfl (i := 0) (by decide) (by decide) dL_influence_10 (wL_s57 cy ad o X u9 g _ d) (fun H locs hP hD hS => ?_)
  refine lv_goto (tgt := 26) hx hb dL_influence_11 (by decide) ?_
  refine lv_iconst (v := nI 0) hx hb dL_influence_26 (by decide) ?_
  have hP : va_P dd vwCl (wL cy ad o X (u9, (vp_updL g 0 r9), d)) H := hP
  have hD : va_D A (wL cy ad o X (u9, (vp_updL g 0 r9), d)) := hD
  refine W.widen (k := 4) (n := 24) (Nat.le_of_ble_eq_true rfl) (Nat.le_of_ble_eq_true rfl) ?_
  exact W.iret (v := (nI 0)) hx hb hr (fun t ht hW => ⟨⟨(nI 0), (u9, (vp_updL g 0 r9), d), rfl, lwJ_of hp.1 hp.2, by rw [ht]; exact hP, va_K.moved hW.alike hK, hD⟩, hS.F ht⟩) hS.2.2 dL_influence_27
theorem hd_L_drawdown : yL_drawdown.cls ≠ "java/lang/invoke/MethodHandle" ∧ yL_drawdown.cls ≠ "java/lang/invoke/VarHandle" ∧ (parseMethodDescriptor yL_drawdown.desc).map (fun d => d.parameters.length) = some 4 := by decide +kernel
set_option maxHeartbeats 4000000 in
set_option maxRecDepth 100000 in
/-- L_drawdown -/
theorem c_L_drawdown (l : Launch) (hlt : l.stackTraces = false) (dd : va_G) (cy : Nat → ClassId) (ad : Nat → Nat) (X : va_W) (tt : Nat × Nat) (N : Nat → Nat) (o : Nat × Nat) (u : CS) (g : Nat → Int64) (d : Nat → UInt64) (sz : Nat) (hrg : rgM (nw u)) (hsI : slI u) (cell part : Int32) : Met l yL_drawdown wsL_drawdown ({ frames := 8, cells := 3, slots := 18, locals := 142 }) (va_Pc [.ref (ad 0), .int cell, .int part, .ref o.1] (wrL dd cy tt N (wL cy ad o X (u, g, d)) sz)) (va_Qi (fun r z9 => lwJ (lkT (inR cell (nI 0) (nI 8)) part (lsN (nw u))) u (fun r u9 => frP u u9 ∧ r = ptF (nw u) (ddM (cn (nw u)) cell.toNatClampNeg) part) r z9) (wB dd cy (fun z9 : LZ => wL cy ad o X z9) (va_A (wL cy ad o X (u, g, d)) sz)) (va_A (wL cy ad o X (u, g, d)) sz)) 3 18 (va_A (wL cy ad o X (u, g, d)) sz) := by
  refine wl_ofWH (cc := cL_drawdown) (maxL := 5) (ret := (some .int)) (hh := [(0, 9, 12, 13), (0, 9, 16, 15), (0, 9, 20, 34)]) (by decide) rfl ?_
  intro p e s m args below meth c s₁ B hml hv
  obtain ⟨rfl, hN, ⟨hsz, hP, hK, hD0, hSt⟩, hE⟩ := hv
  have hx := B.exec
  have hb := B.bytes
  have hr := B.returns
  have hts := atoms_spec (ws := wsL_drawdown) B.pre
  have hown : s.vm.findClass RL = some m.cls := findClass_of_methodNamed B.named
  have hlocks := B.notSynchronized
  have htab : c.exceptionTable.toList = [⟨0, 9, 12, 13⟩, ⟨0, 9, 16, 15⟩, ⟨0, 9, 20, 34⟩] := vx_table (x := yL_drawdown) B (hts _ List.mem_cons_self)
  subst hsz
  have hD := hD0.self (sz := s.heap.size)
  generalize hAe : va_A (wL cy ad o X (u, g, d)) s.heap.size = A at hD hSt hE ⊢
  have hA : ∀ q : Nat, s.heap.size ≤ q → A q := fun q h => by rw [← hAe]; exact Or.inr h
  have hS : va_S A s.heap s.heap [] := va_S.rf
  have hP : va_P dd vwCl (wC cy ad u ++ xL cy o g d X) s.heap := hP
  have hD : va_D A (wC cy ad u ++ xL cy o g d X) := hD
  have hl := lv_entry ([.ref (ad 0), .int cell, .int part, .ref o.1]) (n := 5) (Nat.le_of_ble_eq_true rfl)
  rw [lg_entry_eq]
  generalize (lg_sl ([.ref (ad 0), .int cell, .int part, .ref o.1]) ++ List.replicate (5 - (lg_sl ([.ref (ad 0), .int cell, .int part, .ref o.1])).length) Slot.unset).toArray = ls at hl ⊢
  have hl : lv_has ls 5 [(0, .ref (ad 0)), (1, .int cell), (2, .int part), (3, .ref o.1)] := hl
  refine lv_aload_n hx hb dL_drawdown_0 rfl (lv_at hl 3 rfl) ?_
  refine lv_iconst (v := nI 0) hx hb dL_drawdown_1 (by decide) ?_
  refine lv_aload_n hx hb dL_drawdown_2 rfl (lv_at hl 0 rfl) ?_
  refine lv_iload_n hx hb dL_drawdown_3 rfl (lv_at hl 1 rfl) ?_
  refine lv_iload_n hx hb dL_drawdown_4 rfl (lv_at hl 2 rfl) ?_
  refine wx_calll (vx_runV (As := [.int cell, .int part]) (rest := [.int (nI 0), .ref o.1]) ⟨hx, hb, hml, hown, hts⟩ (c_X2_drawdown l hlt dd cy ad (xL cy o g d X) tt N u _ hrg hsI cell part) (cwV 2 hts gL_drawdown_X2_drawdown rfl rfl rfl hd_X2_drawdown ⟨Nat.le_of_ble_eq_true rfl, Nat.le_of_ble_eq_true rfl⟩) (wrX_V hP hK hD hSt hE hS hA (wC_0 cy ad u (xL cy o g d X)) rfl) rfl rfl hl.1 rfl (lv_room (Nat.le_of_ble_eq_true rfl)) dL_drawdown_5 ⟨Nat.le_of_ble_eq_true rfl, Nat.le_of_ble_eq_true rfl⟩) hD hS hA (fun E9 ce q9 u9 H locs hxs hpx hP hD hS hce hcv hcl => ?_) (fun r9 u9 H locs hp hP hD hS => ?_)
  · rcases xsE_3 hxs with ⟨hk, hE9⟩ | ⟨hk, hE9⟩ | ⟨hk, hE9⟩
    · subst hE9
      refine vx_catch (own := RL) (name := xIO) hown [] ⟨0, 9, 12, 13⟩ [⟨0, 9, 16, 15⟩, ⟨0, 9, 20, 34⟩] htab (fun _ h9 => absurd h9 List.not_mem_nil) rfl (by decide) (hts (Cond.classLink RL 13 "java/lang/IndexOutOfBoundsException") (List.mem_of_getElem? (i := 1) rfl)) (va_Nw.use rfl hE.2.2.1.2.2.2.1) hce hcv hcl ?_
      refine W.eq (g2 := F0 m 12 ls [.ref q9]) rfl ?_
      refine lv_astore (lv' := [(4, .ref q9), (0, .ref (ad 0)), (1, .int cell), (2, .int part), (3, .ref o.1)]) hx hb dL_drawdown_12 hl (by decide) rfl (fun ls hl => ?_)
      refine lv_iconst (v := nI 1) hx hb dL_drawdown_14 (by decide) ?_
      have hP : va_P dd vwCl (wL cy ad o X (u9, g, d)) H := hP
      have hD : va_D A (wL cy ad o X (u9, g, d)) := hD
      refine W.widen (k := 3) (n := 18) (Nat.le_of_ble_eq_true rfl) (Nat.le_of_ble_eq_true rfl) ?_
      exact W.iret (v := (nI 1)) hx hb hr (fun t ht hW => ⟨⟨(nI 1), (u9, g, d), rfl, ⟨by rw [hk], fun h9 => absurd (hk.symm.trans h9) (Nat.succ_ne_zero _), fun _ => hpx⟩, by rw [ht]; exact hP, va_K.moved hW.alike hK, hD⟩, hS.F ht⟩) hS.2.2 dL_drawdown_15
    · subst hE9
      refine vx_catch (own := RL) (name := xIA) hown [⟨0, 9, 12, 13⟩] ⟨0, 9, 16, 15⟩ [⟨0, 9, 20, 34⟩] htab (List.forall_mem_cons.mpr ⟨Or.inr ⟨by decide, xIO, hts (Cond.classLink RL 13 "java/lang/IndexOutOfBoundsException") (List.mem_of_getElem? (i := 1) rfl), hN.1⟩, (fun _ h9 => absurd h9 List.not_mem_nil)⟩) rfl (by decide) (hts (Cond.classLink RL 15 "java/lang/IllegalArgumentException") (List.mem_of_getElem? (i := 2) rfl)) (va_Nw.use rfl hE.2.2.1.2.2.2.2.1) hce hcv hcl ?_
      refine W.eq (g2 := F0 m 16 ls [.ref q9]) rfl ?_
      refine lv_astore (lv' := [(4, .ref q9), (0, .ref (ad 0)), (1, .int cell), (2, .int part), (3, .ref o.1)]) hx hb dL_drawdown_16 hl (by decide) rfl (fun ls hl => ?_)
      refine lv_iconst (v := nI 2) hx hb dL_drawdown_18 (by decide) ?_
      have hP : va_P dd vwCl (wL cy ad o X (u9, g, d)) H := hP
      have hD : va_D A (wL cy ad o X (u9, g, d)) := hD
      refine W.widen (k := 3) (n := 18) (Nat.le_of_ble_eq_true rfl) (Nat.le_of_ble_eq_true rfl) ?_
      exact W.iret (v := (nI 2)) hx hb hr (fun t ht hW => ⟨⟨(nI 2), (u9, g, d), rfl, ⟨by rw [hk], fun h9 => absurd (hk.symm.trans h9) (Nat.succ_ne_zero _), fun _ => hpx⟩, by rw [ht]; exact hP, va_K.moved hW.alike hK, hD⟩, hS.F ht⟩) hS.2.2 dL_drawdown_19
    · subst hE9
      refine vx_catch (own := RL) (name := xAE) hown [⟨0, 9, 12, 13⟩, ⟨0, 9, 16, 15⟩] ⟨0, 9, 20, 34⟩ [] htab (List.forall_mem_cons.mpr ⟨Or.inr ⟨by decide, xIO, hts (Cond.classLink RL 13 "java/lang/IndexOutOfBoundsException") (List.mem_of_getElem? (i := 1) rfl), hN.2.1⟩, (List.forall_mem_cons.mpr ⟨Or.inr ⟨by decide, xIA, hts (Cond.classLink RL 15 "java/lang/IllegalArgumentException") (List.mem_of_getElem? (i := 2) rfl), hN.2.2⟩, (fun _ h9 => absurd h9 List.not_mem_nil)⟩)⟩) rfl (by decide) (hts (Cond.classLink RL 34 "java/lang/ArithmeticException") (List.mem_of_getElem? (i := 3) rfl)) (va_Nw.use rfl hE.2.2.1.2.2.2.2.2.1) hce hcv hcl ?_
      refine W.eq (g2 := F0 m 20 ls [.ref q9]) rfl ?_
      refine lv_astore (lv' := [(4, .ref q9), (0, .ref (ad 0)), (1, .int cell), (2, .int part), (3, .ref o.1)]) hx hb dL_drawdown_20 hl (by decide) rfl (fun ls hl => ?_)
      refine lv_iconst (v := nI 3) hx hb dL_drawdown_22 (by decide) ?_
      have hP : va_P dd vwCl (wL cy ad o X (u9, g, d)) H := hP
      have hD : va_D A (wL cy ad o X (u9, g, d)) := hD
      refine W.widen (k := 3) (n := 18) (Nat.le_of_ble_eq_true rfl) (Nat.le_of_ble_eq_true rfl) ?_
      exact W.iret (v := (nI 3)) hx hb hr (fun t ht hW => ⟨⟨(nI 3), (u9, g, d), rfl, ⟨by rw [hk], fun h9 => absurd (hk.symm.trans h9) (Nat.succ_ne_zero _), fun _ => hpx⟩, by rw [ht]; exact hP, va_K.moved hW.alike hK, hD⟩, hS.F ht⟩) hS.2.2 dL_drawdown_23
  refine wa_last hx hb hK hP hD hS (wL_57 cy ad o X u9 g d) (t0 := 1) rfl (i := 0) (by decide) (by decide) dL_drawdown_8 (wL_s57 cy ad o X u9 g _ d) (fun H locs hP hD hS => ?_)
  refine lv_goto (tgt := 24) hx hb dL_drawdown_9 (by decide) ?_
  refine lv_iconst (v := nI 0) hx hb dL_drawdown_24 (by decide) ?_
  have hP : va_P dd vwCl (wL cy ad o X (u9, (vp_updL g 0 r9), d)) H := hP
  have hD : va_D A (wL cy ad o X (u9, (vp_updL g 0 r9), d)) := hD
  refine W.widen (k := 3) (n := 18) (Nat.le_of_ble_eq_true rfl) (Nat.le_of_ble_eq_true rfl) ?_
  exact W.iret (v := (nI 0)) hx hb hr (fun t ht hW => ⟨⟨(nI 0), (u9, (vp_updL g 0 r9), d), rfl, lwJ_of hp.1 hp.2, by rw [ht]; exact hP, va_K.moved hW.alike hK, hD⟩, hS.F ht⟩) hS.2.2 dL_drawdown_25
theorem hd_L_extreme : yL_extreme.cls ≠ "java/lang/invoke/MethodHandle" ∧ yL_extreme.cls ≠ "java/lang/invoke/VarHandle" ∧ (parseMethodDescriptor yL_extreme.desc).map (fun d => d.parameters.length) = some 3 := by decide +kernel
set_option maxHeartbeats 4000000 in
set_option maxRecDepth 100000 in
/-- L_extreme -/
theorem c_L_extreme (l : Launch) (hlt : l.stackTraces = false) (dd : va_G) (cy : Nat → ClassId) (ad : Nat → Nat) (X : va_W) (tt : Nat × Nat) (N : Nat → Nat) (o : Nat × Nat) (u : CS) (g : Nat → Int64) (d : Nat → UInt64) (sz : Nat) (hi : Bool) (hrg : rgM (nw u)) (hsI : slI u) : Met l yL_extreme wsL_extreme ({ frames := 8, cells := 1, slots := 6, locals := 142 }) (va_Pc [.ref (ad 0), .int (bI hi), .ref o.1] (wrL dd cy tt N (wL cy ad o X (u, g, d)) sz)) (va_Qi (fun r z9 => lwI (if lsN (nw u) then 1 else 0) u (fun r u9 => frP u u9 ∧ r = nI (exF ((cn (nw u)).2.2.1 9) hi 8)) r z9) (wB dd cy (fun z9 : LZ => wL cy ad o X z9) (va_A (wL cy ad o X (u, g, d)) sz)) (va_A (wL cy ad o X (u, g, d)) sz)) 1 6 (va_A (wL cy ad o X (u, g, d)) sz) := by
  refine wl_ofWH (cc := cL_extreme) (maxL := 4) (ret := (some .int)) (hh := [(0, 9, 12, 34)]) (by decide) rfl ?_
  intro p e s m args below meth c s₁ B hml hv
  obtain ⟨rfl, hN, ⟨hsz, hP, hK, hD0, hSt⟩, hE⟩ := hv
  have hx := B.exec
  have hb := B.bytes
  have hr := B.returns
  have hts := atoms_spec (ws := wsL_extreme) B.pre
  have hown : s.vm.findClass RL = some m.cls := findClass_of_methodNamed B.named
  have hlocks := B.notSynchronized
  have htab : c.exceptionTable.toList = [⟨0, 9, 12, 34⟩] := vx_table (x := yL_extreme) B (hts _ List.mem_cons_self)
  subst hsz
  have hD := hD0.self (sz := s.heap.size)
  generalize hAe : va_A (wL cy ad o X (u, g, d)) s.heap.size = A at hD hSt hE ⊢
  have hA : ∀ q : Nat, s.heap.size ≤ q → A q := fun q h => by rw [← hAe]; exact Or.inr h
  have hS : va_S A s.heap s.heap [] := va_S.rf
  have hP : va_P dd vwCl (wC cy ad u ++ xL cy o g d X) s.heap := hP
  have hD : va_D A (wC cy ad u ++ xL cy o g d X) := hD
  have hl := lv_entry ([.ref (ad 0), .int (bI hi), .ref o.1]) (n := 4) (Nat.le_of_ble_eq_true rfl)
  rw [lg_entry_eq]
  generalize (lg_sl ([.ref (ad 0), .int (bI hi), .ref o.1]) ++ List.replicate (4 - (lg_sl ([.ref (ad 0), .int (bI hi), .ref o.1])).length) Slot.unset).toArray = ls at hl ⊢
  have hl : lv_has ls 4 [(0, .ref (ad 0)), (1, .int (bI hi)), (2, .ref o.1)] := hl
  refine lv_aload_n hx hb dL_extreme_0 rfl (lv_at hl 2 rfl) ?_
  refine lv_iconst (v := nI 0) hx hb dL_extreme_1 (by decide) ?_
  refine lv_aload_n hx hb dL_extreme_2 rfl (lv_at hl 0 rfl) ?_
  refine lv_iload_n hx hb dL_extreme_3 rfl (lv_at hl 1 rfl) ?_
  refine wx_calli (vx_runV (As := [.int (bI hi)]) (rest := [.int (nI 0), .ref o.1]) ⟨hx, hb, hml, hown, hts⟩ (c_X2_extreme l hlt dd cy ad (xL cy o g d X) tt N u _ hi hrg hsI) (cwV 1 hts gL_extreme_X2_extreme rfl rfl rfl hd_X2_extreme ⟨Nat.le_of_ble_eq_true rfl, Nat.le_of_ble_eq_true rfl⟩) (wrX_V hP hK hD hSt hE hS hA (wC_0 cy ad u (xL cy o g d X)) rfl) rfl rfl hl.1 rfl (lv_room (Nat.le_of_ble_eq_true rfl)) dL_extreme_4 ⟨Nat.le_of_ble_eq_true rfl, Nat.le_of_ble_eq_true rfl⟩) hD hS hA (fun E9 ce q9 u9 H locs hxs hpx hP hD hS hce hcv hcl => ?_) (fun r9 u9 H locs hp hP hD hS => ?_)
  · rcases xsE_1 hxs with ⟨hk, hE9⟩
    subst hE9
    refine vx_catch (own := RL) (name := xAE) hown [] ⟨0, 9, 12, 34⟩ [] htab (fun _ h9 => absurd h9 List.not_mem_nil) rfl (by decide) (hts (Cond.classLink RL 34 "java/lang/ArithmeticException") (List.mem_of_getElem? (i := 1) rfl)) (va_Nw.use rfl hE.2.2.1.2.2.2.2.2.1) hce hcv hcl ?_
    refine W.eq (g2 := F0 m 12 ls [.ref q9]) rfl ?_
    refine lv_astore_n (lv' := [(3, .ref q9), (0, .ref (ad 0)), (1, .int (bI hi)), (2, .ref o.1)]) hx hb dL_extreme_12 rfl hl (by decide) rfl (fun ls hl => ?_)
    refine lv_iconst (v := nI 1) hx hb dL_extreme_13 (by decide) ?_
    have hP : va_P dd vwCl (wL cy ad o X (u9, g, d)) H := hP
    have hD : va_D A (wL cy ad o X (u9, g, d)) := hD
    refine W.widen (k := 1) (n := 6) (Nat.le_of_ble_eq_true rfl) (Nat.le_of_ble_eq_true rfl) ?_
    exact W.iret (v := (nI 1)) hx hb hr (fun t ht hW => ⟨⟨(nI 1), (u9, g, d), rfl, ⟨by rw [hk], fun h9 => absurd (hk.symm.trans h9) (Nat.succ_ne_zero _), fun _ => hpx⟩, by rw [ht]; exact hP, va_K.moved hW.alike hK, hD⟩, hS.F ht⟩) hS.2.2 dL_extreme_14
  refine lv_i2l hx hb dL_extreme_7 rfl ?_
  refine wa_last hx hb hK hP hD hS (wL_57 cy ad o X u9 g d) (t0 := 1) rfl (i := 0) (by decide) (by decide) dL_extreme_8 (wL_s57 cy ad o X u9 g _ d) (fun H locs hP hD hS => ?_)
  refine lv_goto (tgt := 15) hx hb dL_extreme_9 (by decide) ?_
  refine lv_iconst (v := nI 0) hx hb dL_extreme_15 (by decide) ?_
  have hP : va_P dd vwCl (wL cy ad o X (u9, (vp_updL g 0 r9.toInt64), d)) H := hP
  have hD : va_D A (wL cy ad o X (u9, (vp_updL g 0 r9.toInt64), d)) := hD
  refine W.widen (k := 1) (n := 6) (Nat.le_of_ble_eq_true rfl) (Nat.le_of_ble_eq_true rfl) ?_
  exact W.iret (v := (nI 0)) hx hb hr (fun t ht hW => ⟨⟨(nI 0), (u9, (vp_updL g 0 r9.toInt64), d), rfl, lwI_of hp.1 hp.2, by rw [ht]; exact hP, va_K.moved hW.alike hK, hD⟩, hS.F ht⟩) hS.2.2 dL_extreme_16
theorem hd_L_dry : yL_dry.cls ≠ "java/lang/invoke/MethodHandle" ∧ yL_dry.cls ≠ "java/lang/invoke/VarHandle" ∧ (parseMethodDescriptor yL_dry.desc).map (fun d => d.parameters.length) = some 2 := by decide +kernel
set_option maxHeartbeats 4000000 in
set_option maxRecDepth 100000 in
/-- L_dry -/
theorem c_L_dry (l : Launch) (hlt : l.stackTraces = false) (dd : va_G) (cy : Nat → ClassId) (ad : Nat → Nat) (X : va_W) (tt : Nat × Nat) (N : Nat → Nat) (o : Nat × Nat) (u : CS) (g : Nat → Int64) (d : Nat → UInt64) (sz : Nat) (hrg : rgM (nw u)) (hsI : slI u) : Met l yL_dry wsL_dry ({ frames := 8, cells := 1, slots := 6, locals := 137 }) (va_Pc [.ref (ad 0), .ref o.1] (wrL dd cy tt N (wL cy ad o X (u, g, d)) sz)) (va_Qi (fun r z9 => lwI (if lsN (nw u) then 1 else 0) u (fun r u9 => frP u u9 ∧ r = bwF ((cn (nw u)).2.2.1 9) (fun k9 => nw u (54 + k9)) (cn (nw u)).2.2.2.2.2.1 9) r z9) (wB dd cy (fun z9 : LZ => wL cy ad o X z9) (va_A (wL cy ad o X (u, g, d)) sz)) (va_A (wL cy ad o X (u, g, d)) sz)) 1 6 (va_A (wL cy ad o X (u, g, d)) sz) := by
  refine wl_ofWH (cc := cL_dry) (maxL := 3) (ret := (some .int)) (hh := [(0, 8, 11, 34)]) (by decide) rfl ?_
  intro p e s m args below meth c s₁ B hml hv
  obtain ⟨rfl, hN, ⟨hsz, hP, hK, hD0, hSt⟩, hE⟩ := hv
  have hx := B.exec
  have hb := B.bytes
  have hr := B.returns
  have hts := atoms_spec (ws := wsL_dry) B.pre
  have hown : s.vm.findClass RL = some m.cls := findClass_of_methodNamed B.named
  have hlocks := B.notSynchronized
  have htab : c.exceptionTable.toList = [⟨0, 8, 11, 34⟩] := vx_table (x := yL_dry) B (hts _ List.mem_cons_self)
  subst hsz
  have hD := hD0.self (sz := s.heap.size)
  generalize hAe : va_A (wL cy ad o X (u, g, d)) s.heap.size = A at hD hSt hE ⊢
  have hA : ∀ q : Nat, s.heap.size ≤ q → A q := fun q h => by rw [← hAe]; exact Or.inr h
  have hS : va_S A s.heap s.heap [] := va_S.rf
  have hP : va_P dd vwCl (wC cy ad u ++ xL cy o g d X) s.heap := hP
  have hD : va_D A (wC cy ad u ++ xL cy o g d X) := hD
  have hl := lv_entry ([.ref (ad 0), .ref o.1]) (n := 3) (Nat.le_of_ble_eq_true rfl)
  rw [lg_entry_eq]
  generalize (lg_sl ([.ref (ad 0), .ref o.1]) ++ List.replicate (3 - (lg_sl ([.ref (ad 0), .ref o.1])).length) Slot.unset).toArray = ls at hl ⊢
  have hl : lv_has ls 3 [(0, .ref (ad 0)), (1, .ref o.1)] := hl
  refine lv_aload_n hx hb dL_dry_0 rfl (lv_at hl 1 rfl) ?_
  refine lv_iconst (v := nI 0) hx hb dL_dry_1 (by decide) ?_
  refine lv_aload_n hx hb dL_dry_2 rfl (lv_at hl 0 rfl) ?_
  refine wx_calli (vx_runV (As := []) (rest := [.int (nI 0), .ref o.1]) ⟨hx, hb, hml, hown, hts⟩ (c_X2_dry l hlt dd cy ad (xL cy o g d X) tt N u _ hrg hsI) (cwV 0 hts gL_dry_X2_dry rfl rfl rfl hd_X2_dry ⟨Nat.le_of_ble_eq_true rfl, Nat.le_of_ble_eq_true rfl⟩) (wrX_V hP hK hD hSt hE hS hA (wC_0 cy ad u (xL cy o g d X)) rfl) rfl rfl hl.1 rfl (lv_room (Nat.le_of_ble_eq_true rfl)) dL_dry_3 ⟨Nat.le_of_ble_eq_true rfl, Nat.le_of_ble_eq_true rfl⟩) hD hS hA (fun E9 ce q9 u9 H locs hxs hpx hP hD hS hce hcv hcl => ?_) (fun r9 u9 H locs hp hP hD hS => ?_)
  · rcases xsE_1 hxs with ⟨hk, hE9⟩
    subst hE9
    refine vx_catch (own := RL) (name := xAE) hown [] ⟨0, 8, 11, 34⟩ [] htab (fun _ h9 => absurd h9 List.not_mem_nil) rfl (by decide) (hts (Cond.classLink RL 34 "java/lang/ArithmeticException") (List.mem_of_getElem? (i := 1) rfl)) (va_Nw.use rfl hE.2.2.1.2.2.2.2.2.1) hce hcv hcl ?_
    refine W.eq (g2 := F0 m 11 ls [.ref q9]) rfl ?_
    refine lv_astore_n (lv' := [(2, .ref q9), (0, .ref (ad 0)), (1, .ref o.1)]) hx hb dL_dry_11 rfl hl (by decide) rfl (fun ls hl => ?_)
    refine lv_iconst (v := nI 1) hx hb dL_dry_12 (by decide) ?_
    have hP : va_P dd vwCl (wL cy ad o X (u9, g, d)) H := hP
    have hD : va_D A (wL cy ad o X (u9, g, d)) := hD
    refine W.widen (k := 1) (n := 6) (Nat.le_of_ble_eq_true rfl) (Nat.le_of_ble_eq_true rfl) ?_
    exact W.iret (v := (nI 1)) hx hb hr (fun t ht hW => ⟨⟨(nI 1), (u9, g, d), rfl, ⟨by rw [hk], fun h9 => absurd (hk.symm.trans h9) (Nat.succ_ne_zero _), fun _ => hpx⟩, by rw [ht]; exact hP, va_K.moved hW.alike hK, hD⟩, hS.F ht⟩) hS.2.2 dL_dry_13
  refine lv_i2l hx hb dL_dry_6 rfl ?_
  refine wa_last hx hb hK hP hD hS (wL_57 cy ad o X u9 g d) (t0 := 1) rfl (i := 0) (by decide) (by decide) dL_dry_7 (wL_s57 cy ad o X u9 g _ d) (fun H locs hP hD hS => ?_)
  refine lv_goto (tgt := 14) hx hb dL_dry_8 (by decide) ?_
  refine lv_iconst (v := nI 0) hx hb dL_dry_14 (by decide) ?_
  have hP : va_P dd vwCl (wL cy ad o X (u9, (vp_updL g 0 r9.toInt64), d)) H := hP
  have hD : va_D A (wL cy ad o X (u9, (vp_updL g 0 r9.toInt64), d)) := hD
  refine W.widen (k := 1) (n := 6) (Nat.le_of_ble_eq_true rfl) (Nat.le_of_ble_eq_true rfl) ?_
  exact W.iret (v := (nI 0)) hx hb hr (fun t ht hW => ⟨⟨(nI 0), (u9, (vp_updL g 0 r9.toInt64), d), rfl, lwI_of hp.1 hp.2, by rw [ht]; exact hP, va_K.moved hW.alike hK, hD⟩, hS.F ht⟩) hS.2.2 dL_dry_15
theorem hd_L_isAllowed : yL_isAllowed.cls ≠ "java/lang/invoke/MethodHandle" ∧ yL_isAllowed.cls ≠ "java/lang/invoke/VarHandle" ∧ (parseMethodDescriptor yL_isAllowed.desc).map (fun d => d.parameters.length) = some 2 := by decide +kernel
set_option maxHeartbeats 4000000 in
set_option maxRecDepth 100000 in
/-- L_isAllowed -/
theorem c_L_isAllowed (l : Launch) (hlt : l.stackTraces = false) (dd : va_G) (cy : Nat → ClassId) (ad : Nat → Nat) (X : va_W) (tt : Nat × Nat) (N : Nat → Nat) (o : Nat × Nat) (u : CS) (g : Nat → Int64) (d : Nat → UInt64) (sz : Nat) (hrg : rgM (nw u)) (hsI : slI u) : Met l yL_isAllowed wsL_isAllowed ({ frames := 8, cells := 1, slots := 6, locals := 137 }) (va_Pc [.ref (ad 0), .ref o.1] (wrL dd cy tt N (wL cy ad o X (u, g, d)) sz)) (va_Qi (fun r z9 => lwZ (if lsN (nw u) then 1 else 0) u (isF (abU (cn (nw u)) 0) 9) r z9) (wB dd cy (fun z9 : LZ => wL cy ad o X z9) (va_A (wL cy ad o X (u, g, d)) sz)) (va_A (wL cy ad o X (u, g, d)) sz)) 1 6 (va_A (wL cy ad o X (u, g, d)) sz) := by
  refine wl_ofWH (cc := cL_isAllowed) (maxL := 3) (ret := (some .int)) (hh := [(0, 15, 18, 34)]) (by decide) rfl ?_
  intro p e s m args below meth c s₁ B hml hv
  obtain ⟨rfl, hN, ⟨hsz, hP, hK, hD0, hSt⟩, hE⟩ := hv
  have hx := B.exec
  have hb := B.bytes
  have hr := B.returns
  have hts := atoms_spec (ws := wsL_isAllowed) B.pre
  have hown : s.vm.findClass RL = some m.cls := findClass_of_methodNamed B.named
  have hlocks := B.notSynchronized
  have htab : c.exceptionTable.toList = [⟨0, 15, 18, 34⟩] := vx_table (x := yL_isAllowed) B (hts _ List.mem_cons_self)
  subst hsz
  have hD := hD0.self (sz := s.heap.size)
  generalize hAe : va_A (wL cy ad o X (u, g, d)) s.heap.size = A at hD hSt hE ⊢
  have hA : ∀ q : Nat, s.heap.size ≤ q → A q := fun q h => by rw [← hAe]; exact Or.inr h
  have hS : va_S A s.heap s.heap [] := va_S.rf
  have hP : va_P dd vwCl (wC cy ad u ++ xL cy o g d X) s.heap := hP
  have hD : va_D A (wC cy ad u ++ xL cy o g d X) := hD
  have hl := lv_entry ([.ref (ad 0), .ref o.1]) (n := 3) (Nat.le_of_ble_eq_true rfl)
  rw [lg_entry_eq]
  generalize (lg_sl ([.ref (ad 0), .ref o.1]) ++ List.replicate (3 - (lg_sl ([.ref (ad 0), .ref o.1])).length) Slot.unset).toArray = ls at hl ⊢
  have hl : lv_has ls 3 [(0, .ref (ad 0)), (1, .ref o.1)] := hl
  refine lv_aload_n hx hb dL_isAllowed_0 rfl (lv_at hl 1 rfl) ?_
  refine lv_iconst (v := nI 0) hx hb dL_isAllowed_1 (by decide) ?_
  refine lv_aload_n hx hb dL_isAllowed_2 rfl (lv_at hl 0 rfl) ?_
  refine wx_calli (vx_runV (As := []) (rest := [.int (nI 0), .ref o.1]) ⟨hx, hb, hml, hown, hts⟩ (c_X2_isAllowed l hlt dd cy ad (xL cy o g d X) tt N u _ hrg hsI) (cwV 0 hts gL_isAllowed_X2_isAllowed rfl rfl rfl hd_X2_isAllowed ⟨Nat.le_of_ble_eq_true rfl, Nat.le_of_ble_eq_true rfl⟩) (wrX_V hP hK hD hSt hE hS hA (wC_0 cy ad u (xL cy o g d X)) rfl) rfl rfl hl.1 rfl (lv_room (Nat.le_of_ble_eq_true rfl)) dL_isAllowed_3 ⟨Nat.le_of_ble_eq_true rfl, Nat.le_of_ble_eq_true rfl⟩) hD hS hA (fun E9 ce q9 u9 H locs hxs hpx hP hD hS hce hcv hcl => ?_) (fun r9 u9 H locs hp hP hD hS => ?_)
  · rcases xsE_1 hxs with ⟨hk, hE9⟩
    subst hE9
    refine vx_catch (own := RL) (name := xAE) hown [] ⟨0, 15, 18, 34⟩ [] htab (fun _ h9 => absurd h9 List.not_mem_nil) rfl (by decide) (hts (Cond.classLink RL 34 "java/lang/ArithmeticException") (List.mem_of_getElem? (i := 1) rfl)) (va_Nw.use rfl hE.2.2.1.2.2.2.2.2.1) hce hcv hcl ?_
    refine W.eq (g2 := F0 m 18 ls [.ref q9]) rfl ?_
    refine lv_astore_n (lv' := [(2, .ref q9), (0, .ref (ad 0)), (1, .ref o.1)]) hx hb dL_isAllowed_18 rfl hl (by decide) rfl (fun ls hl => ?_)
    refine lv_iconst (v := nI 1) hx hb dL_isAllowed_19 (by decide) ?_
    have hP : va_P dd vwCl (wL cy ad o X (u9, g, d)) H := hP
    have hD : va_D A (wL cy ad o X (u9, g, d)) := hD
    refine W.widen (k := 1) (n := 6) (Nat.le_of_ble_eq_true rfl) (Nat.le_of_ble_eq_true rfl) ?_
    exact W.iret (v := (nI 1)) hx hb hr (fun t ht hW => ⟨⟨(nI 1), (u9, g, d), rfl, ⟨by rw [hk], fun h9 => absurd (hk.symm.trans h9) (Nat.succ_ne_zero _), hpx⟩, by rw [ht]; exact hP, va_K.moved hW.alike hK, hD⟩, hS.F ht⟩) hS.2.2 dL_isAllowed_20
  have hr9 : bI (isF (abU (cn (nw u)) 0) 9) = r9 := hp.2.2.symm
  subst hr9
  refine wb_if_eq (tgt := 13) hx hb dL_isAllowed_6 (by decide) (fun cB => ?_) (fun cB => ?_)
  · refine lv_lconst (v := 0) hx hb dL_isAllowed_13 rfl ?_
    refine wa_last hx hb hK hP hD hS (wL_57 cy ad o X u9 g d) (t0 := 1) rfl (i := 0) (by decide) (by decide) dL_isAllowed_14 (wL_s57 cy ad o X u9 g _ d) (fun H locs hP hD hS => ?_)
    refine lv_goto (tgt := 21) hx hb dL_isAllowed_15 (by decide) ?_
    refine lv_iconst (v := nI 0) hx hb dL_isAllowed_21 (by decide) ?_
    have hP : va_P dd vwCl (wL cy ad o X (u9, (vp_updL g 0 0), d)) H := hP
    have hD : va_D A (wL cy ad o X (u9, (vp_updL g 0 0), d)) := hD
    refine W.widen (k := 1) (n := 6) (Nat.le_of_ble_eq_true rfl) (Nat.le_of_ble_eq_true rfl) ?_
    exact W.iret (v := (nI 0)) hx hb hr (fun t ht hW => ⟨⟨(nI 0), (u9, (vp_updL g 0 0), d), rfl, lwZ_of hp.1 hp.2.1 (by rw [cB]; rfl), by rw [ht]; exact hP, va_K.moved hW.alike hK, hD⟩, hS.F ht⟩) hS.2.2 dL_isAllowed_22
  · refine lv_lconst (v := 1) hx hb dL_isAllowed_9 rfl ?_
    refine lv_goto (tgt := 14) hx hb dL_isAllowed_10 (by decide) ?_
    refine wa_last hx hb hK hP hD hS (wL_57 cy ad o X u9 g d) (t0 := 1) rfl (i := 0) (by decide) (by decide) dL_isAllowed_14 (wL_s57 cy ad o X u9 g _ d) (fun H locs hP hD hS => ?_)
    refine lv_goto (tgt := 21) hx hb dL_isAllowed_15 (by decide) ?_
    refine lv_iconst (v := nI 0) hx hb dL_isAllowed_21 (by decide) ?_
    have hP : va_P dd vwCl (wL cy ad o X (u9, (vp_updL g 0 1), d)) H := hP
    have hD : va_D A (wL cy ad o X (u9, (vp_updL g 0 1), d)) := hD
    refine W.widen (k := 1) (n := 6) (Nat.le_of_ble_eq_true rfl) (Nat.le_of_ble_eq_true rfl) ?_
    exact W.iret (v := (nI 0)) hx hb hr (fun t ht hW => ⟨⟨(nI 0), (u9, (vp_updL g 0 1), d), rfl, lwZ_of hp.1 hp.2.1 (by rw [cB]; rfl), by rw [ht]; exact hP, va_K.moved hW.alike hK, hD⟩, hS.F ht⟩) hS.2.2 dL_isAllowed_22
theorem hd_L_greatestRate : yL_greatestRate.cls ≠ "java/lang/invoke/MethodHandle" ∧ yL_greatestRate.cls ≠ "java/lang/invoke/VarHandle" ∧ (parseMethodDescriptor yL_greatestRate.desc).map (fun d => d.parameters.length) = some 3 := by decide +kernel
set_option maxHeartbeats 4000000 in
set_option maxRecDepth 100000 in
/-- L_greatestRate -/
theorem c_L_greatestRate (l : Launch) (hlt : l.stackTraces = false) (dd : va_G) (cy : Nat → ClassId) (ad : Nat → Nat) (X : va_W) (tt : Nat × Nat) (N : Nat → Nat) (o : Nat × Nat) (u : CS) (g : Nat → Int64) (d : Nat → UInt64) (sz : Nat) (hrg : rgM (nw u)) (hsI : slI u) (cell : Int32) : Met l yL_greatestRate wsL_greatestRate ({ frames := 8, cells := 2, slots := 12, locals := 138 }) (va_Pc [.ref (ad 0), .int cell, .ref o.1] (wrL dd cy tt N (wL cy ad o X (u, g, d)) sz)) (va_Qi (fun r z9 => lwI (if inR cell (nI 0) (nI 8) then (if lsN (nw u) then 2 else 0) else 1) u (fun r u9 => frP u u9 ∧ r = grU (cn (nw u)) (2 ^ cell.toNatClampNeg)) r z9) (wB dd cy (fun z9 : LZ => wL cy ad o X z9) (va_A (wL cy ad o X (u, g, d)) sz)) (va_A (wL cy ad o X (u, g, d)) sz)) 2 12 (va_A (wL cy ad o X (u, g, d)) sz) := by
  refine wl_ofWH (cc := cL_greatestRate) (maxL := 4) (ret := (some .int)) (hh := [(0, 9, 12, 13), (0, 9, 15, 34)]) (by decide) rfl ?_
  intro p e s m args below meth c s₁ B hml hv
  obtain ⟨rfl, hN, ⟨hsz, hP, hK, hD0, hSt⟩, hE⟩ := hv
  have hx := B.exec
  have hb := B.bytes
  have hr := B.returns
  have hts := atoms_spec (ws := wsL_greatestRate) B.pre
  have hown : s.vm.findClass RL = some m.cls := findClass_of_methodNamed B.named
  have hlocks := B.notSynchronized
  have htab : c.exceptionTable.toList = [⟨0, 9, 12, 13⟩, ⟨0, 9, 15, 34⟩] := vx_table (x := yL_greatestRate) B (hts _ List.mem_cons_self)
  subst hsz
  have hD := hD0.self (sz := s.heap.size)
  generalize hAe : va_A (wL cy ad o X (u, g, d)) s.heap.size = A at hD hSt hE ⊢
  have hA : ∀ q : Nat, s.heap.size ≤ q → A q := fun q h => by rw [← hAe]; exact Or.inr h
  have hS : va_S A s.heap s.heap [] := va_S.rf
  have hP : va_P dd vwCl (wC cy ad u ++ xL cy o g d X) s.heap := hP
  have hD : va_D A (wC cy ad u ++ xL cy o g d X) := hD
  have hl := lv_entry ([.ref (ad 0), .int cell, .ref o.1]) (n := 4) (Nat.le_of_ble_eq_true rfl)
  rw [lg_entry_eq]
  generalize (lg_sl ([.ref (ad 0), .int cell, .ref o.1]) ++ List.replicate (4 - (lg_sl ([.ref (ad 0), .int cell, .ref o.1])).length) Slot.unset).toArray = ls at hl ⊢
  have hl : lv_has ls 4 [(0, .ref (ad 0)), (1, .int cell), (2, .ref o.1)] := hl
  refine lv_aload_n hx hb dL_greatestRate_0 rfl (lv_at hl 2 rfl) ?_
  refine lv_iconst (v := nI 0) hx hb dL_greatestRate_1 (by decide) ?_
  refine lv_aload_n hx hb dL_greatestRate_2 rfl (lv_at hl 0 rfl) ?_
  refine lv_iload_n hx hb dL_greatestRate_3 rfl (lv_at hl 1 rfl) ?_
  refine wx_calli (vx_runV (As := [.int cell]) (rest := [.int (nI 0), .ref o.1]) ⟨hx, hb, hml, hown, hts⟩ (c_X2_greatestRate l hlt dd cy ad (xL cy o g d X) tt N u _ hrg hsI cell) (cwV 1 hts gL_greatestRate_X2_greatestRate rfl rfl rfl hd_X2_greatestRate ⟨Nat.le_of_ble_eq_true rfl, Nat.le_of_ble_eq_true rfl⟩) (wrX_V hP hK hD hSt hE hS hA (wC_0 cy ad u (xL cy o g d X)) rfl) rfl rfl hl.1 rfl (lv_room (Nat.le_of_ble_eq_true rfl)) dL_greatestRate_4 ⟨Nat.le_of_ble_eq_true rfl, Nat.le_of_ble_eq_true rfl⟩) hD hS hA (fun E9 ce q9 u9 H locs hxs hpx hP hD hS hce hcv hcl => ?_) (fun r9 u9 H locs hp hP hD hS => ?_)
  · rcases xsE_2 hxs with ⟨hk, hE9⟩ | ⟨hk, hE9⟩
    · subst hE9
      refine vx_catch (own := RL) (name := xIO) hown [] ⟨0, 9, 12, 13⟩ [⟨0, 9, 15, 34⟩] htab (fun _ h9 => absurd h9 List.not_mem_nil) rfl (by decide) (hts (Cond.classLink RL 13 "java/lang/IndexOutOfBoundsException") (List.mem_of_getElem? (i := 1) rfl)) (va_Nw.use rfl hE.2.2.1.2.2.2.1) hce hcv hcl ?_
      refine W.eq (g2 := F0 m 12 ls [.ref q9]) rfl ?_
      refine lv_astore_n (lv' := [(3, .ref q9), (0, .ref (ad 0)), (1, .int cell), (2, .ref o.1)]) hx hb dL_greatestRate_12 rfl hl (by decide) rfl (fun ls hl => ?_)
      refine lv_iconst (v := nI 1) hx hb dL_greatestRate_13 (by decide) ?_
      have hP : va_P dd vwCl (wL cy ad o X (u9, g, d)) H := hP
      have hD : va_D A (wL cy ad o X (u9, g, d)) := hD
      refine W.widen (k := 2) (n := 12) (Nat.le_of_ble_eq_true rfl) (Nat.le_of_ble_eq_true rfl) ?_
      exact W.iret (v := (nI 1)) hx hb hr (fun t ht hW => ⟨⟨(nI 1), (u9, g, d), rfl, ⟨by rw [hk], fun h9 => absurd (hk.symm.trans h9) (Nat.succ_ne_zero _), fun _ => hpx⟩, by rw [ht]; exact hP, va_K.moved hW.alike hK, hD⟩, hS.F ht⟩) hS.2.2 dL_greatestRate_14
    · subst hE9
      refine vx_catch (own := RL) (name := xAE) hown [⟨0, 9, 12, 13⟩] ⟨0, 9, 15, 34⟩ [] htab (List.forall_mem_cons.mpr ⟨Or.inr ⟨by decide, xIO, hts (Cond.classLink RL 13 "java/lang/IndexOutOfBoundsException") (List.mem_of_getElem? (i := 1) rfl), hN.2.1⟩, (fun _ h9 => absurd h9 List.not_mem_nil)⟩) rfl (by decide) (hts (Cond.classLink RL 34 "java/lang/ArithmeticException") (List.mem_of_getElem? (i := 2) rfl)) (va_Nw.use rfl hE.2.2.1.2.2.2.2.2.1) hce hcv hcl ?_
      refine W.eq (g2 := F0 m 15 ls [.ref q9]) rfl ?_
      refine lv_astore_n (lv' := [(3, .ref q9), (0, .ref (ad 0)), (1, .int cell), (2, .ref o.1)]) hx hb dL_greatestRate_15 rfl hl (by decide) rfl (fun ls hl => ?_)
      refine lv_iconst (v := nI 2) hx hb dL_greatestRate_16 (by decide) ?_
      have hP : va_P dd vwCl (wL cy ad o X (u9, g, d)) H := hP
      have hD : va_D A (wL cy ad o X (u9, g, d)) := hD
      refine W.widen (k := 2) (n := 12) (Nat.le_of_ble_eq_true rfl) (Nat.le_of_ble_eq_true rfl) ?_
      exact W.iret (v := (nI 2)) hx hb hr (fun t ht hW => ⟨⟨(nI 2), (u9, g, d), rfl, ⟨by rw [hk], fun h9 => absurd (hk.symm.trans h9) (Nat.succ_ne_zero _), fun _ => hpx⟩, by rw [ht]; exact hP, va_K.moved hW.alike hK, hD⟩, hS.F ht⟩) hS.2.2 dL_greatestRate_17
  refine lv_i2l hx hb dL_greatestRate_7 rfl ?_
  refine wa_last hx hb hK hP hD hS (wL_57 cy ad o X u9 g d) (t0 := 1) rfl (i := 0) (by decide) (by decide) dL_greatestRate_8 (wL_s57 cy ad o X u9 g _ d) (fun H locs hP hD hS => ?_)
  refine lv_goto (tgt := 18) hx hb dL_greatestRate_9 (by decide) ?_
  refine lv_iconst (v := nI 0) hx hb dL_greatestRate_18 (by decide) ?_
  have hP : va_P dd vwCl (wL cy ad o X (u9, (vp_updL g 0 r9.toInt64), d)) H := hP
  have hD : va_D A (wL cy ad o X (u9, (vp_updL g 0 r9.toInt64), d)) := hD
  refine W.widen (k := 2) (n := 12) (Nat.le_of_ble_eq_true rfl) (Nat.le_of_ble_eq_true rfl) ?_
  exact W.iret (v := (nI 0)) hx hb hr (fun t ht hW => ⟨⟨(nI 0), (u9, (vp_updL g 0 r9.toInt64), d), rfl, lwI_of hp.1 hp.2, by rw [ht]; exact hP, va_K.moved hW.alike hK, hD⟩, hS.F ht⟩) hS.2.2 dL_greatestRate_19
theorem hd_L_greatestEqual : yL_greatestEqual.cls ≠ "java/lang/invoke/MethodHandle" ∧ yL_greatestEqual.cls ≠ "java/lang/invoke/VarHandle" ∧ (parseMethodDescriptor yL_greatestEqual.desc).map (fun d => d.parameters.length) = some 3 := by decide +kernel
set_option maxHeartbeats 4000000 in
set_option maxRecDepth 100000 in
/-- L_greatestEqual -/
theorem c_L_greatestEqual (l : Launch) (hlt : l.stackTraces = false) (dd : va_G) (cy : Nat → ClassId) (ad : Nat → Nat) (X : va_W) (tt : Nat × Nat) (N : Nat → Nat) (o : Nat × Nat) (u : CS) (g : Nat → Int64) (d : Nat → UInt64) (sz : Nat) (hrg : rgM (nw u)) (hsI : slI u) (cells : Int32) : Met l yL_greatestEqual wsL_greatestEqual ({ frames := 8, cells := 2, slots := 12, locals := 138 }) (va_Pc [.ref (ad 0), .int cells, .ref o.1] (wrL dd cy tt N (wL cy ad o X (u, g, d)) sz)) (va_Qi (fun r z9 => lwI (if inR cells (nI 1) (nI 511) then (if lsN (nw u) then 2 else 0) else 1) u (fun r u9 => frP u u9 ∧ r = grU (cn (nw u)) cells.toNatClampNeg) r z9) (wB dd cy (fun z9 : LZ => wL cy ad o X z9) (va_A (wL cy ad o X (u, g, d)) sz)) (va_A (wL cy ad o X (u, g, d)) sz)) 2 12 (va_A (wL cy ad o X (u, g, d)) sz) := by
  refine wl_ofWH (cc := cL_greatestEqual) (maxL := 4) (ret := (some .int)) (hh := [(0, 9, 12, 15), (0, 9, 15, 34)]) (by decide) rfl ?_
  intro p e s m args below meth c s₁ B hml hv
  obtain ⟨rfl, hN, ⟨hsz, hP, hK, hD0, hSt⟩, hE⟩ := hv
  have hx := B.exec
  have hb := B.bytes
  have hr := B.returns
  have hts := atoms_spec (ws := wsL_greatestEqual) B.pre
  have hown : s.vm.findClass RL = some m.cls := findClass_of_methodNamed B.named
  have hlocks := B.notSynchronized
  have htab : c.exceptionTable.toList = [⟨0, 9, 12, 15⟩, ⟨0, 9, 15, 34⟩] := vx_table (x := yL_greatestEqual) B (hts _ List.mem_cons_self)
  subst hsz
  have hD := hD0.self (sz := s.heap.size)
  generalize hAe : va_A (wL cy ad o X (u, g, d)) s.heap.size = A at hD hSt hE ⊢
  have hA : ∀ q : Nat, s.heap.size ≤ q → A q := fun q h => by rw [← hAe]; exact Or.inr h
  have hS : va_S A s.heap s.heap [] := va_S.rf
  have hP : va_P dd vwCl (wC cy ad u ++ xL cy o g d X) s.heap := hP
  have hD : va_D A (wC cy ad u ++ xL cy o g d X) := hD
  have hl := lv_entry ([.ref (ad 0), .int cells, .ref o.1]) (n := 4) (Nat.le_of_ble_eq_true rfl)
  rw [lg_entry_eq]
  generalize (lg_sl ([.ref (ad 0), .int cells, .ref o.1]) ++ List.replicate (4 - (lg_sl ([.ref (ad 0), .int cells, .ref o.1])).length) Slot.unset).toArray = ls at hl ⊢
  have hl : lv_has ls 4 [(0, .ref (ad 0)), (1, .int cells), (2, .ref o.1)] := hl
  refine lv_aload_n hx hb dL_greatestEqual_0 rfl (lv_at hl 2 rfl) ?_
  refine lv_iconst (v := nI 0) hx hb dL_greatestEqual_1 (by decide) ?_
  refine lv_aload_n hx hb dL_greatestEqual_2 rfl (lv_at hl 0 rfl) ?_
  refine lv_iload_n hx hb dL_greatestEqual_3 rfl (lv_at hl 1 rfl) ?_
  refine wx_calli (vx_runV (As := [.int cells]) (rest := [.int (nI 0), .ref o.1]) ⟨hx, hb, hml, hown, hts⟩ (c_X2_greatestEqual l hlt dd cy ad (xL cy o g d X) tt N u _ hrg hsI cells) (cwV 1 hts gL_greatestEqual_X2_greatestEqual rfl rfl rfl hd_X2_greatestEqual ⟨Nat.le_of_ble_eq_true rfl, Nat.le_of_ble_eq_true rfl⟩) (wrX_V hP hK hD hSt hE hS hA (wC_0 cy ad u (xL cy o g d X)) rfl) rfl rfl hl.1 rfl (lv_room (Nat.le_of_ble_eq_true rfl)) dL_greatestEqual_4 ⟨Nat.le_of_ble_eq_true rfl, Nat.le_of_ble_eq_true rfl⟩) hD hS hA (fun E9 ce q9 u9 H locs hxs hpx hP hD hS hce hcv hcl => ?_) (fun r9 u9 H locs hp hP hD hS => ?_)
  · rcases xsE_2 hxs with ⟨hk, hE9⟩ | ⟨hk, hE9⟩
    · subst hE9
      refine vx_catch (own := RL) (name := xIA) hown [] ⟨0, 9, 12, 15⟩ [⟨0, 9, 15, 34⟩] htab (fun _ h9 => absurd h9 List.not_mem_nil) rfl (by decide) (hts (Cond.classLink RL 15 "java/lang/IllegalArgumentException") (List.mem_of_getElem? (i := 1) rfl)) (va_Nw.use rfl hE.2.2.1.2.2.2.2.1) hce hcv hcl ?_
      refine W.eq (g2 := F0 m 12 ls [.ref q9]) rfl ?_
      refine lv_astore_n (lv' := [(3, .ref q9), (0, .ref (ad 0)), (1, .int cells), (2, .ref o.1)]) hx hb dL_greatestEqual_12 rfl hl (by decide) rfl (fun ls hl => ?_)
      refine lv_iconst (v := nI 1) hx hb dL_greatestEqual_13 (by decide) ?_
      have hP : va_P dd vwCl (wL cy ad o X (u9, g, d)) H := hP
      have hD : va_D A (wL cy ad o X (u9, g, d)) := hD
      refine W.widen (k := 2) (n := 12) (Nat.le_of_ble_eq_true rfl) (Nat.le_of_ble_eq_true rfl) ?_
      exact W.iret (v := (nI 1)) hx hb hr (fun t ht hW => ⟨⟨(nI 1), (u9, g, d), rfl, ⟨by rw [hk], fun h9 => absurd (hk.symm.trans h9) (Nat.succ_ne_zero _), fun _ => hpx⟩, by rw [ht]; exact hP, va_K.moved hW.alike hK, hD⟩, hS.F ht⟩) hS.2.2 dL_greatestEqual_14
    · subst hE9
      refine vx_catch (own := RL) (name := xAE) hown [⟨0, 9, 12, 15⟩] ⟨0, 9, 15, 34⟩ [] htab (List.forall_mem_cons.mpr ⟨Or.inr ⟨by decide, xIA, hts (Cond.classLink RL 15 "java/lang/IllegalArgumentException") (List.mem_of_getElem? (i := 1) rfl), hN.2.2⟩, (fun _ h9 => absurd h9 List.not_mem_nil)⟩) rfl (by decide) (hts (Cond.classLink RL 34 "java/lang/ArithmeticException") (List.mem_of_getElem? (i := 2) rfl)) (va_Nw.use rfl hE.2.2.1.2.2.2.2.2.1) hce hcv hcl ?_
      refine W.eq (g2 := F0 m 15 ls [.ref q9]) rfl ?_
      refine lv_astore_n (lv' := [(3, .ref q9), (0, .ref (ad 0)), (1, .int cells), (2, .ref o.1)]) hx hb dL_greatestEqual_15 rfl hl (by decide) rfl (fun ls hl => ?_)
      refine lv_iconst (v := nI 2) hx hb dL_greatestEqual_16 (by decide) ?_
      have hP : va_P dd vwCl (wL cy ad o X (u9, g, d)) H := hP
      have hD : va_D A (wL cy ad o X (u9, g, d)) := hD
      refine W.widen (k := 2) (n := 12) (Nat.le_of_ble_eq_true rfl) (Nat.le_of_ble_eq_true rfl) ?_
      exact W.iret (v := (nI 2)) hx hb hr (fun t ht hW => ⟨⟨(nI 2), (u9, g, d), rfl, ⟨by rw [hk], fun h9 => absurd (hk.symm.trans h9) (Nat.succ_ne_zero _), fun _ => hpx⟩, by rw [ht]; exact hP, va_K.moved hW.alike hK, hD⟩, hS.F ht⟩) hS.2.2 dL_greatestEqual_17
  refine lv_i2l hx hb dL_greatestEqual_7 rfl ?_
  refine wa_last hx hb hK hP hD hS (wL_57 cy ad o X u9 g d) (t0 := 1) rfl (i := 0) (by decide) (by decide) dL_greatestEqual_8 (wL_s57 cy ad o X u9 g _ d) (fun H locs hP hD hS => ?_)
  refine lv_goto (tgt := 18) hx hb dL_greatestEqual_9 (by decide) ?_
  refine lv_iconst (v := nI 0) hx hb dL_greatestEqual_18 (by decide) ?_
  have hP : va_P dd vwCl (wL cy ad o X (u9, (vp_updL g 0 r9.toInt64), d)) H := hP
  have hD : va_D A (wL cy ad o X (u9, (vp_updL g 0 r9.toInt64), d)) := hD
  refine W.widen (k := 2) (n := 12) (Nat.le_of_ble_eq_true rfl) (Nat.le_of_ble_eq_true rfl) ?_
  exact W.iret (v := (nI 0)) hx hb hr (fun t ht hW => ⟨⟨(nI 0), (u9, (vp_updL g 0 r9.toInt64), d), rfl, lwI_of hp.1 hp.2, by rw [ht]; exact hP, va_K.moved hW.alike hK, hD⟩, hS.F ht⟩) hS.2.2 dL_greatestEqual_19
theorem hd_L_bestPair : yL_bestPair.cls ≠ "java/lang/invoke/MethodHandle" ∧ yL_bestPair.cls ≠ "java/lang/invoke/VarHandle" ∧ (parseMethodDescriptor yL_bestPair.desc).map (fun d => d.parameters.length) = some 4 := by decide +kernel
set_option maxHeartbeats 4000000 in
set_option maxRecDepth 100000 in
/-- L_bestPair -/
theorem c_L_bestPair (l : Launch) (hlt : l.stackTraces = false) (dd : va_G) (cy : Nat → ClassId) (ad : Nat → Nat) (X : va_W) (tt : Nat × Nat) (N : Nat → Nat) (o : Nat × Nat) (u : CS) (g : Nat → Int64) (d : Nat → UInt64) (sz : Nat) (hrg : rgM (nw u)) (hsI : slI u) (a b : Int32) : Met l yL_bestPair wsL_bestPair ({ frames := 8, cells := 4, slots := 24, locals := 139 }) (va_Pc [.ref (ad 0), .int a, .int b, .ref o.1] (wrL dd cy tt N (wL cy ad o X (u, g, d)) sz)) (va_Qi (fun r z9 => lwI (if inR a (nI 0) (nI 8) && inR b (nI 0) (nI 8) then (if a = b then 2 else if lsN (nw u) then 3 else 0) else 1) u (fun r u9 => frP u u9 ∧ r = boU (cn (nw u)) a.toNatClampNeg b.toNatClampNeg) r z9) (wB dd cy (fun z9 : LZ => wL cy ad o X z9) (va_A (wL cy ad o X (u, g, d)) sz)) (va_A (wL cy ad o X (u, g, d)) sz)) 4 24 (va_A (wL cy ad o X (u, g, d)) sz) := by
  refine wl_ofWH (cc := cL_bestPair) (maxL := 5) (ret := (some .int)) (hh := [(0, 10, 13, 13), (0, 10, 17, 15), (0, 10, 21, 34)]) (by decide) rfl ?_
  intro p e s m args below meth c s₁ B hml hv
  obtain ⟨rfl, hN, ⟨hsz, hP, hK, hD0, hSt⟩, hE⟩ := hv
  have hx := B.exec
  have hb := B.bytes
  have hr := B.returns
  have hts := atoms_spec (ws := wsL_bestPair) B.pre
  have hown : s.vm.findClass RL = some m.cls := findClass_of_methodNamed B.named
  have hlocks := B.notSynchronized
  have htab : c.exceptionTable.toList = [⟨0, 10, 13, 13⟩, ⟨0, 10, 17, 15⟩, ⟨0, 10, 21, 34⟩] := vx_table (x := yL_bestPair) B (hts _ List.mem_cons_self)
  subst hsz
  have hD := hD0.self (sz := s.heap.size)
  generalize hAe : va_A (wL cy ad o X (u, g, d)) s.heap.size = A at hD hSt hE ⊢
  have hA : ∀ q : Nat, s.heap.size ≤ q → A q := fun q h => by rw [← hAe]; exact Or.inr h
  have hS : va_S A s.heap s.heap [] := va_S.rf
  have hP : va_P dd vwCl (wC cy ad u ++ xL cy o g d X) s.heap := hP
  have hD : va_D A (wC cy ad u ++ xL cy o g d X) := hD
  have hl := lv_entry ([.ref (ad 0), .int a, .int b, .ref o.1]) (n := 5) (Nat.le_of_ble_eq_true rfl)
  rw [lg_entry_eq]
  generalize (lg_sl ([.ref (ad 0), .int a, .int b, .ref o.1]) ++ List.replicate (5 - (lg_sl ([.ref (ad 0), .int a, .int b, .ref o.1])).length) Slot.unset).toArray = ls at hl ⊢
  have hl : lv_has ls 5 [(0, .ref (ad 0)), (1, .int a), (2, .int b), (3, .ref o.1)] := hl
  refine lv_aload_n hx hb dL_bestPair_0 rfl (lv_at hl 3 rfl) ?_
  refine lv_iconst (v := nI 0) hx hb dL_bestPair_1 (by decide) ?_
  refine lv_aload_n hx hb dL_bestPair_2 rfl (lv_at hl 0 rfl) ?_
  refine lv_iload_n hx hb dL_bestPair_3 rfl (lv_at hl 1 rfl) ?_
  refine lv_iload_n hx hb dL_bestPair_4 rfl (lv_at hl 2 rfl) ?_
  refine wx_calli (vx_runV (As := [.int a, .int b]) (rest := [.int (nI 0), .ref o.1]) ⟨hx, hb, hml, hown, hts⟩ (c_X2_bestPair l hlt dd cy ad (xL cy o g d X) tt N u _ hrg hsI a b) (cwV 2 hts gL_bestPair_X2_bestPair rfl rfl rfl hd_X2_bestPair ⟨Nat.le_of_ble_eq_true rfl, Nat.le_of_ble_eq_true rfl⟩) (wrX_V hP hK hD hSt hE hS hA (wC_0 cy ad u (xL cy o g d X)) rfl) rfl rfl hl.1 rfl (lv_room (Nat.le_of_ble_eq_true rfl)) dL_bestPair_5 ⟨Nat.le_of_ble_eq_true rfl, Nat.le_of_ble_eq_true rfl⟩) hD hS hA (fun E9 ce q9 u9 H locs hxs hpx hP hD hS hce hcv hcl => ?_) (fun r9 u9 H locs hp hP hD hS => ?_)
  · rcases xsE_3 hxs with ⟨hk, hE9⟩ | ⟨hk, hE9⟩ | ⟨hk, hE9⟩
    · subst hE9
      refine vx_catch (own := RL) (name := xIO) hown [] ⟨0, 10, 13, 13⟩ [⟨0, 10, 17, 15⟩, ⟨0, 10, 21, 34⟩] htab (fun _ h9 => absurd h9 List.not_mem_nil) rfl (by decide) (hts (Cond.classLink RL 13 "java/lang/IndexOutOfBoundsException") (List.mem_of_getElem? (i := 1) rfl)) (va_Nw.use rfl hE.2.2.1.2.2.2.1) hce hcv hcl ?_
      refine W.eq (g2 := F0 m 13 ls [.ref q9]) rfl ?_
      refine lv_astore (lv' := [(4, .ref q9), (0, .ref (ad 0)), (1, .int a), (2, .int b), (3, .ref o.1)]) hx hb dL_bestPair_13 hl (by decide) rfl (fun ls hl => ?_)
      refine lv_iconst (v := nI 1) hx hb dL_bestPair_15 (by decide) ?_
      have hP : va_P dd vwCl (wL cy ad o X (u9, g, d)) H := hP
      have hD : va_D A (wL cy ad o X (u9, g, d)) := hD
      refine W.widen (k := 4) (n := 24) (Nat.le_of_ble_eq_true rfl) (Nat.le_of_ble_eq_true rfl) ?_
      exact W.iret (v := (nI 1)) hx hb hr (fun t ht hW => ⟨⟨(nI 1), (u9, g, d), rfl, ⟨by rw [hk], fun h9 => absurd (hk.symm.trans h9) (Nat.succ_ne_zero _), fun _ => hpx⟩, by rw [ht]; exact hP, va_K.moved hW.alike hK, hD⟩, hS.F ht⟩) hS.2.2 dL_bestPair_16
    · subst hE9
      refine vx_catch (own := RL) (name := xIA) hown [⟨0, 10, 13, 13⟩] ⟨0, 10, 17, 15⟩ [⟨0, 10, 21, 34⟩] htab (List.forall_mem_cons.mpr ⟨Or.inr ⟨by decide, xIO, hts (Cond.classLink RL 13 "java/lang/IndexOutOfBoundsException") (List.mem_of_getElem? (i := 1) rfl), hN.1⟩, (fun _ h9 => absurd h9 List.not_mem_nil)⟩) rfl (by decide) (hts (Cond.classLink RL 15 "java/lang/IllegalArgumentException") (List.mem_of_getElem? (i := 2) rfl)) (va_Nw.use rfl hE.2.2.1.2.2.2.2.1) hce hcv hcl ?_
      refine W.eq (g2 := F0 m 17 ls [.ref q9]) rfl ?_
      refine lv_astore (lv' := [(4, .ref q9), (0, .ref (ad 0)), (1, .int a), (2, .int b), (3, .ref o.1)]) hx hb dL_bestPair_17 hl (by decide) rfl (fun ls hl => ?_)
      refine lv_iconst (v := nI 2) hx hb dL_bestPair_19 (by decide) ?_
      have hP : va_P dd vwCl (wL cy ad o X (u9, g, d)) H := hP
      have hD : va_D A (wL cy ad o X (u9, g, d)) := hD
      refine W.widen (k := 4) (n := 24) (Nat.le_of_ble_eq_true rfl) (Nat.le_of_ble_eq_true rfl) ?_
      exact W.iret (v := (nI 2)) hx hb hr (fun t ht hW => ⟨⟨(nI 2), (u9, g, d), rfl, ⟨by rw [hk], fun h9 => absurd (hk.symm.trans h9) (Nat.succ_ne_zero _), fun _ => hpx⟩, by rw [ht]; exact hP, va_K.moved hW.alike hK, hD⟩, hS.F ht⟩) hS.2.2 dL_bestPair_20
    · subst hE9
      refine vx_catch (own := RL) (name := xAE) hown [⟨0, 10, 13, 13⟩, ⟨0, 10, 17, 15⟩] ⟨0, 10, 21, 34⟩ [] htab (List.forall_mem_cons.mpr ⟨Or.inr ⟨by decide, xIO, hts (Cond.classLink RL 13 "java/lang/IndexOutOfBoundsException") (List.mem_of_getElem? (i := 1) rfl), hN.2.1⟩, (List.forall_mem_cons.mpr ⟨Or.inr ⟨by decide, xIA, hts (Cond.classLink RL 15 "java/lang/IllegalArgumentException") (List.mem_of_getElem? (i := 2) rfl), hN.2.2⟩, (fun _ h9 => absurd h9 List.not_mem_nil)⟩)⟩) rfl (by decide) (hts (Cond.classLink RL 34 "java/lang/ArithmeticException") (List.mem_of_getElem? (i := 3) rfl)) (va_Nw.use rfl hE.2.2.1.2.2.2.2.2.1) hce hcv hcl ?_
      refine W.eq (g2 := F0 m 21 ls [.ref q9]) rfl ?_
      refine lv_astore (lv' := [(4, .ref q9), (0, .ref (ad 0)), (1, .int a), (2, .int b), (3, .ref o.1)]) hx hb dL_bestPair_21 hl (by decide) rfl (fun ls hl => ?_)
      refine lv_iconst (v := nI 3) hx hb dL_bestPair_23 (by decide) ?_
      have hP : va_P dd vwCl (wL cy ad o X (u9, g, d)) H := hP
      have hD : va_D A (wL cy ad o X (u9, g, d)) := hD
      refine W.widen (k := 4) (n := 24) (Nat.le_of_ble_eq_true rfl) (Nat.le_of_ble_eq_true rfl) ?_
      exact W.iret (v := (nI 3)) hx hb hr (fun t ht hW => ⟨⟨(nI 3), (u9, g, d), rfl, ⟨by rw [hk], fun h9 => absurd (hk.symm.trans h9) (Nat.succ_ne_zero _), fun _ => hpx⟩, by rw [ht]; exact hP, va_K.moved hW.alike hK, hD⟩, hS.F ht⟩) hS.2.2 dL_bestPair_24
  refine lv_i2l hx hb dL_bestPair_8 rfl ?_
  refine wa_last hx hb hK hP hD hS (wL_57 cy ad o X u9 g d) (t0 := 1) rfl (i := 0) (by decide) (by decide) dL_bestPair_9 (wL_s57 cy ad o X u9 g _ d) (fun H locs hP hD hS => ?_)
  refine lv_goto (tgt := 25) hx hb dL_bestPair_10 (by decide) ?_
  refine lv_iconst (v := nI 0) hx hb dL_bestPair_25 (by decide) ?_
  have hP : va_P dd vwCl (wL cy ad o X (u9, (vp_updL g 0 r9.toInt64), d)) H := hP
  have hD : va_D A (wL cy ad o X (u9, (vp_updL g 0 r9.toInt64), d)) := hD
  refine W.widen (k := 4) (n := 24) (Nat.le_of_ble_eq_true rfl) (Nat.le_of_ble_eq_true rfl) ?_
  exact W.iret (v := (nI 0)) hx hb hr (fun t ht hW => ⟨⟨(nI 0), (u9, (vp_updL g 0 r9.toInt64), d), rfl, lwI_of hp.1 hp.2, by rw [ht]; exact hP, va_K.moved hW.alike hK, hD⟩, hS.F ht⟩) hS.2.2 dL_bestPair_26
theorem hd_L_relax : yL_relax.cls ≠ "java/lang/invoke/MethodHandle" ∧ yL_relax.cls ≠ "java/lang/invoke/VarHandle" ∧ (parseMethodDescriptor yL_relax.desc).map (fun d => d.parameters.length) = some 3 := by decide +kernel
set_option maxHeartbeats 4000000 in
set_option maxRecDepth 100000 in
/-- L_relax -/
theorem c_L_relax (l : Launch) (hlt : l.stackTraces = false) (dd : va_G) (cy : Nat → ClassId) (ad : Nat → Nat) (X : va_W) (tt : Nat × Nat) (N : Nat → Nat) (o : Nat × Nat) (u : CS) (g : Nat → Int64) (d : Nat → UInt64) (sz : Nat) (n : Nat) (hn : n ≤ 4) (hok : svOk u.2.2.2.2.2.2) (h_savedCount : nI n = u.2.2.2.1) (hsI : slI u) (hrg : rgM (nw u)) (bb : Nat) (hB : ∀ j, j < 9 → dB bb (u.2.1 24 j)) (hB0 : 1000 ≤ bb) (hB1 : bb + 900000 ≤ 2 ^ 40) (sweeps : Int32) : Met l yL_relax wsL_relax ({ frames := 8, cells := 1, slots := 6, locals := 127 }) (va_Pc [.ref (ad 0), .int sweeps, .ref o.2] (wrL dd cy tt N (wL cy ad o X (u, g, d)) sz)) (va_Qi (fun r z9 => lwD (if inR sweeps (nI 0) (nI 100) then 0 else 1) u (fun r u9 => r = (rxN (nw u) (u.2.1 24) sweeps.toNatClampNeg).2 ∧ svN n u u9 ∧ nw u9 = nw u ∧ u9.2.1 24 = (rxN (nw u) (u.2.1 24) sweeps.toNatClampNeg).1) r z9) (wB dd cy (fun z9 : LZ => wL cy ad o X z9) (va_A (wL cy ad o X (u, g, d)) sz)) (va_A (wL cy ad o X (u, g, d)) sz)) 1 6 (va_A (wL cy ad o X (u, g, d)) sz) := by
  refine wl_ofWH (cc := cL_relax) (maxL := 4) (ret := (some .int)) (hh := [(0, 8, 11, 15)]) (by decide) rfl ?_
  intro p e s m args below meth c s₁ B hml hv
  obtain ⟨rfl, hN, ⟨hsz, hP, hK, hD0, hSt⟩, hE⟩ := hv
  have hx := B.exec
  have hb := B.bytes
  have hr := B.returns
  have hts := atoms_spec (ws := wsL_relax) B.pre
  have hown : s.vm.findClass RL = some m.cls := findClass_of_methodNamed B.named
  have hlocks := B.notSynchronized
  have htab : c.exceptionTable.toList = [⟨0, 8, 11, 15⟩] := vx_table (x := yL_relax) B (hts _ List.mem_cons_self)
  subst hsz
  have hD := hD0.self (sz := s.heap.size)
  generalize hAe : va_A (wL cy ad o X (u, g, d)) s.heap.size = A at hD hSt hE ⊢
  have hA : ∀ q : Nat, s.heap.size ≤ q → A q := fun q h => by rw [← hAe]; exact Or.inr h
  have hS : va_S A s.heap s.heap [] := va_S.rf
  have hP : va_P dd vwCl (wC cy ad u ++ xL cy o g d X) s.heap := hP
  have hD : va_D A (wC cy ad u ++ xL cy o g d X) := hD
  have hl := lv_entry ([.ref (ad 0), .int sweeps, .ref o.2]) (n := 4) (Nat.le_of_ble_eq_true rfl)
  rw [lg_entry_eq]
  generalize (lg_sl ([.ref (ad 0), .int sweeps, .ref o.2]) ++ List.replicate (4 - (lg_sl ([.ref (ad 0), .int sweeps, .ref o.2])).length) Slot.unset).toArray = ls at hl ⊢
  have hl : lv_has ls 4 [(0, .ref (ad 0)), (1, .int sweeps), (2, .ref o.2)] := hl
  refine lv_aload_n hx hb dL_relax_0 rfl (lv_at hl 2 rfl) ?_
  refine lv_iconst (v := nI 0) hx hb dL_relax_1 (by decide) ?_
  refine lv_aload_n hx hb dL_relax_2 rfl (lv_at hl 0 rfl) ?_
  refine lv_iload_n hx hb dL_relax_3 rfl (lv_at hl 1 rfl) ?_
  refine wx_calld (vx_runV (As := [.int sweeps]) (rest := [.int (nI 0), .ref o.2]) ⟨hx, hb, hml, hown, hts⟩ (c_X2_relax l hlt dd cy ad (xL cy o g d X) tt N u _ n hn hok h_savedCount hsI hrg bb hB hB0 hB1 sweeps) (cwV 1 hts gL_relax_X2_relax rfl rfl rfl hd_X2_relax ⟨Nat.le_of_ble_eq_true rfl, Nat.le_of_ble_eq_true rfl⟩) (wrX_V hP hK hD hSt hE hS hA (wC_0 cy ad u (xL cy o g d X)) rfl) rfl rfl hl.1 rfl (lv_room (Nat.le_of_ble_eq_true rfl)) dL_relax_4 ⟨Nat.le_of_ble_eq_true rfl, Nat.le_of_ble_eq_true rfl⟩) hD hS hA (fun E9 ce q9 u9 H locs hxs hpx hP hD hS hce hcv hcl => ?_) (fun r9 u9 H locs hp hP hD hS => ?_)
  · rcases xsE_1 hxs with ⟨hk, hE9⟩
    subst hE9
    refine vx_catch (own := RL) (name := xIA) hown [] ⟨0, 8, 11, 15⟩ [] htab (fun _ h9 => absurd h9 List.not_mem_nil) rfl (by decide) (hts (Cond.classLink RL 15 "java/lang/IllegalArgumentException") (List.mem_of_getElem? (i := 1) rfl)) (va_Nw.use rfl hE.2.2.1.2.2.2.2.1) hce hcv hcl ?_
    refine W.eq (g2 := F0 m 11 ls [.ref q9]) rfl ?_
    refine lv_astore_n (lv' := [(3, .ref q9), (0, .ref (ad 0)), (1, .int sweeps), (2, .ref o.2)]) hx hb dL_relax_11 rfl hl (by decide) rfl (fun ls hl => ?_)
    refine lv_iconst (v := nI 1) hx hb dL_relax_12 (by decide) ?_
    have hP : va_P dd vwCl (wL cy ad o X (u9, g, d)) H := hP
    have hD : va_D A (wL cy ad o X (u9, g, d)) := hD
    refine W.widen (k := 1) (n := 6) (Nat.le_of_ble_eq_true rfl) (Nat.le_of_ble_eq_true rfl) ?_
    exact W.iret (v := (nI 1)) hx hb hr (fun t ht hW => ⟨⟨(nI 1), (u9, g, d), rfl, ⟨by rw [hk], fun h9 => absurd (hk.symm.trans h9) (Nat.succ_ne_zero _), fun _ => hpx⟩, by rw [ht]; exact hP, va_K.moved hW.alike hK, hD⟩, hS.F ht⟩) hS.2.2 dL_relax_13
  refine wa_dast hx hb hK hP hD hS (wL_58 cy ad o X u9 g d) (t0 := 2) rfl (i := 0) (by decide) (by decide) dL_relax_7 (wL_s58 cy ad o X u9 g d _) (fun H locs hP hD hS => ?_)
  refine lv_goto (tgt := 14) hx hb dL_relax_8 (by decide) ?_
  refine lv_iconst (v := nI 0) hx hb dL_relax_14 (by decide) ?_
  have hP : va_P dd vwCl (wL cy ad o X (u9, g, (vf_upd d 0 r9))) H := hP
  have hD : va_D A (wL cy ad o X (u9, g, (vf_upd d 0 r9))) := hD
  refine W.widen (k := 1) (n := 6) (Nat.le_of_ble_eq_true rfl) (Nat.le_of_ble_eq_true rfl) ?_
  exact W.iret (v := (nI 0)) hx hb hr (fun t ht hW => ⟨⟨(nI 0), (u9, g, (vf_upd d 0 r9)), rfl, lwD_of hp.1 hp.2, by rw [ht]; exact hP, va_K.moved hW.alike hK, hD⟩, hS.F ht⟩) hS.2.2 dL_relax_15
theorem hd_L_relaxed : yL_relaxed.cls ≠ "java/lang/invoke/MethodHandle" ∧ yL_relaxed.cls ≠ "java/lang/invoke/VarHandle" ∧ (parseMethodDescriptor yL_relaxed.desc).map (fun d => d.parameters.length) = some 3 := by decide +kernel
set_option maxHeartbeats 4000000 in
set_option maxRecDepth 100000 in
/-- L_relaxed -/
theorem c_L_relaxed (l : Launch) (hlt : l.stackTraces = false) (dd : va_G) (cy : Nat → ClassId) (ad : Nat → Nat) (X : va_W) (tt : Nat × Nat) (N : Nat → Nat) (o : Nat × Nat) (u : CS) (g : Nat → Int64) (d : Nat → UInt64) (sz : Nat) (hsI : slI u) (cell : Int32) : Met l yL_relaxed wsL_relaxed ({ frames := 8, cells := 1, slots := 6, locals := 123 }) (va_Pc [.ref (ad 0), .int cell, .ref o.2] (wrL dd cy tt N (wL cy ad o X (u, g, d)) sz)) (va_Qi (fun r z9 => lwD (if inR cell (nI 0) (nI 8) then 0 else 1) u (fun r u9 => frP u u9 ∧ r = u.2.1 24 cell.toNatClampNeg) r z9) (wB dd cy (fun z9 : LZ => wL cy ad o X z9) (va_A (wL cy ad o X (u, g, d)) sz)) (va_A (wL cy ad o X (u, g, d)) sz)) 1 6 (va_A (wL cy ad o X (u, g, d)) sz) := by
  refine wl_ofWH (cc := cL_relaxed) (maxL := 4) (ret := (some .int)) (hh := [(0, 8, 11, 13)]) (by decide) rfl ?_
  intro p e s m args below meth c s₁ B hml hv
  obtain ⟨rfl, hN, ⟨hsz, hP, hK, hD0, hSt⟩, hE⟩ := hv
  have hx := B.exec
  have hb := B.bytes
  have hr := B.returns
  have hts := atoms_spec (ws := wsL_relaxed) B.pre
  have hown : s.vm.findClass RL = some m.cls := findClass_of_methodNamed B.named
  have hlocks := B.notSynchronized
  have htab : c.exceptionTable.toList = [⟨0, 8, 11, 13⟩] := vx_table (x := yL_relaxed) B (hts _ List.mem_cons_self)
  subst hsz
  have hD := hD0.self (sz := s.heap.size)
  generalize hAe : va_A (wL cy ad o X (u, g, d)) s.heap.size = A at hD hSt hE ⊢
  have hA : ∀ q : Nat, s.heap.size ≤ q → A q := fun q h => by rw [← hAe]; exact Or.inr h
  have hS : va_S A s.heap s.heap [] := va_S.rf
  have hP : va_P dd vwCl (wC cy ad u ++ xL cy o g d X) s.heap := hP
  have hD : va_D A (wC cy ad u ++ xL cy o g d X) := hD
  have hl := lv_entry ([.ref (ad 0), .int cell, .ref o.2]) (n := 4) (Nat.le_of_ble_eq_true rfl)
  rw [lg_entry_eq]
  generalize (lg_sl ([.ref (ad 0), .int cell, .ref o.2]) ++ List.replicate (4 - (lg_sl ([.ref (ad 0), .int cell, .ref o.2])).length) Slot.unset).toArray = ls at hl ⊢
  have hl : lv_has ls 4 [(0, .ref (ad 0)), (1, .int cell), (2, .ref o.2)] := hl
  refine lv_aload_n hx hb dL_relaxed_0 rfl (lv_at hl 2 rfl) ?_
  refine lv_iconst (v := nI 0) hx hb dL_relaxed_1 (by decide) ?_
  refine lv_aload_n hx hb dL_relaxed_2 rfl (lv_at hl 0 rfl) ?_
  refine lv_iload_n hx hb dL_relaxed_3 rfl (lv_at hl 1 rfl) ?_
  refine wx_calld (vx_runV (As := [.int cell]) (rest := [.int (nI 0), .ref o.2]) ⟨hx, hb, hml, hown, hts⟩ (c_X2_relaxed l hlt dd cy ad (xL cy o g d X) tt N u _ hsI cell) (cwV 1 hts gL_relaxed_X2_relaxed rfl rfl rfl hd_X2_relaxed ⟨Nat.le_of_ble_eq_true rfl, Nat.le_of_ble_eq_true rfl⟩) (wrX_V hP hK hD hSt hE hS hA (wC_0 cy ad u (xL cy o g d X)) rfl) rfl rfl hl.1 rfl (lv_room (Nat.le_of_ble_eq_true rfl)) dL_relaxed_4 ⟨Nat.le_of_ble_eq_true rfl, Nat.le_of_ble_eq_true rfl⟩) hD hS hA (fun E9 ce q9 u9 H locs hxs hpx hP hD hS hce hcv hcl => ?_) (fun r9 u9 H locs hp hP hD hS => ?_)
  · rcases xsE_1 hxs with ⟨hk, hE9⟩
    subst hE9
    refine vx_catch (own := RL) (name := xIO) hown [] ⟨0, 8, 11, 13⟩ [] htab (fun _ h9 => absurd h9 List.not_mem_nil) rfl (by decide) (hts (Cond.classLink RL 13 "java/lang/IndexOutOfBoundsException") (List.mem_of_getElem? (i := 1) rfl)) (va_Nw.use rfl hE.2.2.1.2.2.2.1) hce hcv hcl ?_
    refine W.eq (g2 := F0 m 11 ls [.ref q9]) rfl ?_
    refine lv_astore_n (lv' := [(3, .ref q9), (0, .ref (ad 0)), (1, .int cell), (2, .ref o.2)]) hx hb dL_relaxed_11 rfl hl (by decide) rfl (fun ls hl => ?_)
    refine lv_iconst (v := nI 1) hx hb dL_relaxed_12 (by decide) ?_
    have hP : va_P dd vwCl (wL cy ad o X (u9, g, d)) H := hP
    have hD : va_D A (wL cy ad o X (u9, g, d)) := hD
    refine W.widen (k := 1) (n := 6) (Nat.le_of_ble_eq_true rfl) (Nat.le_of_ble_eq_true rfl) ?_
    exact W.iret (v := (nI 1)) hx hb hr (fun t ht hW => ⟨⟨(nI 1), (u9, g, d), rfl, ⟨by rw [hk], fun h9 => absurd (hk.symm.trans h9) (Nat.succ_ne_zero _), fun _ => hpx⟩, by rw [ht]; exact hP, va_K.moved hW.alike hK, hD⟩, hS.F ht⟩) hS.2.2 dL_relaxed_13
  refine wa_dast hx hb hK hP hD hS (wL_58 cy ad o X u9 g d) (t0 := 2) rfl (i := 0) (by decide) (by decide) dL_relaxed_7 (wL_s58 cy ad o X u9 g d _) (fun H locs hP hD hS => ?_)
  refine lv_goto (tgt := 14) hx hb dL_relaxed_8 (by decide) ?_
  refine lv_iconst (v := nI 0) hx hb dL_relaxed_14 (by decide) ?_
  have hP : va_P dd vwCl (wL cy ad o X (u9, g, (vf_upd d 0 r9))) H := hP
  have hD : va_D A (wL cy ad o X (u9, g, (vf_upd d 0 r9))) := hD
  refine W.widen (k := 1) (n := 6) (Nat.le_of_ble_eq_true rfl) (Nat.le_of_ble_eq_true rfl) ?_
  exact W.iret (v := (nI 0)) hx hb hr (fun t ht hW => ⟨⟨(nI 0), (u9, g, (vf_upd d 0 r9)), rfl, lwD_of hp.1 hp.2, by rw [ht]; exact hP, va_K.moved hW.alike hK, hD⟩, hS.F ht⟩) hS.2.2 dL_relaxed_15
theorem hd_L_error : yL_error.cls ≠ "java/lang/invoke/MethodHandle" ∧ yL_error.cls ≠ "java/lang/invoke/VarHandle" ∧ (parseMethodDescriptor yL_error.desc).map (fun d => d.parameters.length) = some 2 := by decide +kernel
set_option maxHeartbeats 4000000 in
set_option maxRecDepth 100000 in
/-- L_error -/
theorem c_L_error (l : Launch) (hlt : l.stackTraces = false) (dd : va_G) (cy : Nat → ClassId) (ad : Nat → Nat) (X : va_W) (tt : Nat × Nat) (N : Nat → Nat) (o : Nat × Nat) (u : CS) (g : Nat → Int64) (d : Nat → UInt64) (sz : Nat) (hrg : rgM (nw u)) (hsI : slI u) (bb : Nat) (hB : ∀ j, j < 9 → dB bb (u.2.1 24 j)) (hB1 : bb ≤ 2 ^ 40) : Met l yL_error wsL_error ({ frames := 8, cells := 1, slots := 6, locals := 142 }) (va_Pc [.ref (ad 0), .ref o.2] (wrL dd cy tt N (wL cy ad o X (u, g, d)) sz)) (va_Qi (fun r z9 => lwD (if lsN (nw u) then 1 else 0) u (fun r u9 => frP u u9 ∧ r = erD (nw u) (u.2.1 24) 9) r z9) (wB dd cy (fun z9 : LZ => wL cy ad o X z9) (va_A (wL cy ad o X (u, g, d)) sz)) (va_A (wL cy ad o X (u, g, d)) sz)) 1 6 (va_A (wL cy ad o X (u, g, d)) sz) := by
  refine wl_ofWH (cc := cL_error) (maxL := 3) (ret := (some .int)) (hh := [(0, 7, 10, 34)]) (by decide) rfl ?_
  intro p e s m args below meth c s₁ B hml hv
  obtain ⟨rfl, hN, ⟨hsz, hP, hK, hD0, hSt⟩, hE⟩ := hv
  have hx := B.exec
  have hb := B.bytes
  have hr := B.returns
  have hts := atoms_spec (ws := wsL_error) B.pre
  have hown : s.vm.findClass RL = some m.cls := findClass_of_methodNamed B.named
  have hlocks := B.notSynchronized
  have htab : c.exceptionTable.toList = [⟨0, 7, 10, 34⟩] := vx_table (x := yL_error) B (hts _ List.mem_cons_self)
  subst hsz
  have hD := hD0.self (sz := s.heap.size)
  generalize hAe : va_A (wL cy ad o X (u, g, d)) s.heap.size = A at hD hSt hE ⊢
  have hA : ∀ q : Nat, s.heap.size ≤ q → A q := fun q h => by rw [← hAe]; exact Or.inr h
  have hS : va_S A s.heap s.heap [] := va_S.rf
  have hP : va_P dd vwCl (wC cy ad u ++ xL cy o g d X) s.heap := hP
  have hD : va_D A (wC cy ad u ++ xL cy o g d X) := hD
  have hl := lv_entry ([.ref (ad 0), .ref o.2]) (n := 3) (Nat.le_of_ble_eq_true rfl)
  rw [lg_entry_eq]
  generalize (lg_sl ([.ref (ad 0), .ref o.2]) ++ List.replicate (3 - (lg_sl ([.ref (ad 0), .ref o.2])).length) Slot.unset).toArray = ls at hl ⊢
  have hl : lv_has ls 3 [(0, .ref (ad 0)), (1, .ref o.2)] := hl
  refine lv_aload_n hx hb dL_error_0 rfl (lv_at hl 1 rfl) ?_
  refine lv_iconst (v := nI 0) hx hb dL_error_1 (by decide) ?_
  refine lv_aload_n hx hb dL_error_2 rfl (lv_at hl 0 rfl) ?_
  refine wx_calld (vx_runV (As := []) (rest := [.int (nI 0), .ref o.2]) ⟨hx, hb, hml, hown, hts⟩ (c_X2_error l hlt dd cy ad (xL cy o g d X) tt N u _ hrg hsI bb hB hB1) (cwV 0 hts gL_error_X2_error rfl rfl rfl hd_X2_error ⟨Nat.le_of_ble_eq_true rfl, Nat.le_of_ble_eq_true rfl⟩) (wrX_V hP hK hD hSt hE hS hA (wC_0 cy ad u (xL cy o g d X)) rfl) rfl rfl hl.1 rfl (lv_room (Nat.le_of_ble_eq_true rfl)) dL_error_3 ⟨Nat.le_of_ble_eq_true rfl, Nat.le_of_ble_eq_true rfl⟩) hD hS hA (fun E9 ce q9 u9 H locs hxs hpx hP hD hS hce hcv hcl => ?_) (fun r9 u9 H locs hp hP hD hS => ?_)
  · rcases xsE_1 hxs with ⟨hk, hE9⟩
    subst hE9
    refine vx_catch (own := RL) (name := xAE) hown [] ⟨0, 7, 10, 34⟩ [] htab (fun _ h9 => absurd h9 List.not_mem_nil) rfl (by decide) (hts (Cond.classLink RL 34 "java/lang/ArithmeticException") (List.mem_of_getElem? (i := 1) rfl)) (va_Nw.use rfl hE.2.2.1.2.2.2.2.2.1) hce hcv hcl ?_
    refine W.eq (g2 := F0 m 10 ls [.ref q9]) rfl ?_
    refine lv_astore_n (lv' := [(2, .ref q9), (0, .ref (ad 0)), (1, .ref o.2)]) hx hb dL_error_10 rfl hl (by decide) rfl (fun ls hl => ?_)
    refine lv_iconst (v := nI 1) hx hb dL_error_11 (by decide) ?_
    have hP : va_P dd vwCl (wL cy ad o X (u9, g, d)) H := hP
    have hD : va_D A (wL cy ad o X (u9, g, d)) := hD
    refine W.widen (k := 1) (n := 6) (Nat.le_of_ble_eq_true rfl) (Nat.le_of_ble_eq_true rfl) ?_
    exact W.iret (v := (nI 1)) hx hb hr (fun t ht hW => ⟨⟨(nI 1), (u9, g, d), rfl, ⟨by rw [hk], fun h9 => absurd (hk.symm.trans h9) (Nat.succ_ne_zero _), fun _ => hpx⟩, by rw [ht]; exact hP, va_K.moved hW.alike hK, hD⟩, hS.F ht⟩) hS.2.2 dL_error_12
  refine wa_dast hx hb hK hP hD hS (wL_58 cy ad o X u9 g d) (t0 := 2) rfl (i := 0) (by decide) (by decide) dL_error_6 (wL_s58 cy ad o X u9 g d _) (fun H locs hP hD hS => ?_)
  refine lv_goto (tgt := 13) hx hb dL_error_7 (by decide) ?_
  refine lv_iconst (v := nI 0) hx hb dL_error_13 (by decide) ?_
  have hP : va_P dd vwCl (wL cy ad o X (u9, g, (vf_upd d 0 r9))) H := hP
  have hD : va_D A (wL cy ad o X (u9, g, (vf_upd d 0 r9))) := hD
  refine W.widen (k := 1) (n := 6) (Nat.le_of_ble_eq_true rfl) (Nat.le_of_ble_eq_true rfl) ?_
  exact W.iret (v := (nI 0)) hx hb hr (fun t ht hW => ⟨⟨(nI 0), (u9, g, (vf_upd d 0 r9)), rfl, lwD_of hp.1 hp.2, by rw [ht]; exact hP, va_K.moved hW.alike hK, hD⟩, hS.F ht⟩) hS.2.2 dL_error_14
theorem hd_L_undo : yL_undo.cls ≠ "java/lang/invoke/MethodHandle" ∧ yL_undo.cls ≠ "java/lang/invoke/VarHandle" ∧ (parseMethodDescriptor yL_undo.desc).map (fun d => d.parameters.length) = some 2 := by decide +kernel
set_option maxHeartbeats 4000000 in
set_option maxRecDepth 100000 in
/-- L_undo -/
theorem c_L_undo (l : Launch) (hlt : l.stackTraces = false) (dd : va_G) (cy : Nat → ClassId) (ad : Nat → Nat) (X : va_W) (tt : Nat × Nat) (N : Nat → Nat) (o : Nat × Nat) (u : CS) (g : Nat → Int64) (d : Nat → UInt64) (sz : Nat) (n : Nat) (hn : n ≤ 4) (hok : svOk u.2.2.2.2.2.2) (h_savedCount : nI n = u.2.2.2.1) (hsI : slI u) : Met l yL_undo wsL_undo ({ frames := 8, cells := 1, slots := 6, locals := 122 }) (va_Pc [.ref (ad 0), .ref o.1] (wrL dd cy tt N (wL cy ad o X (u, g, d)) sz)) (va_Qi (fun r z9 => lwI (if n = 0 then 1 else 0) u (fun r u9 => r = nI (n - 1) ∧ u9.2.2.2.1 = nI (n - 1) ∧ u9.2.2.2.2.1 = nI 0 ∧ u9.2.2.2.2.2.2 = u.2.2.2.2.2.2 ∧ (∀ k, k < 72 → nw u9 k = nwB u (u.2.2.2.2.2.2 (n - 1)) k) ∧ (∀ j, j < 9 → u9.2.1 24 j = u.2.1 (17 + 8 * u.2.2.2.2.2.2 (n - 1) + 7) j) ∧ (∀ c, 1 ≤ c → c < 5 → nwB u9 c = nwB u c ∧ u9.2.1 (17 + 8 * c + 7) = u.2.1 (17 + 8 * c + 7))) r z9) (wB dd cy (fun z9 : LZ => wL cy ad o X z9) (va_A (wL cy ad o X (u, g, d)) sz)) (va_A (wL cy ad o X (u, g, d)) sz)) 1 6 (va_A (wL cy ad o X (u, g, d)) sz) := by
  refine wl_ofWH (cc := cL_undo) (maxL := 3) (ret := (some .int)) (hh := [(0, 8, 11, 85)]) (by decide) rfl ?_
  intro p e s m args below meth c s₁ B hml hv
  obtain ⟨rfl, hN, ⟨hsz, hP, hK, hD0, hSt⟩, hE⟩ := hv
  have hx := B.exec
  have hb := B.bytes
  have hr := B.returns
  have hts := atoms_spec (ws := wsL_undo) B.pre
  have hown : s.vm.findClass RL = some m.cls := findClass_of_methodNamed B.named
  have hlocks := B.notSynchronized
  have htab : c.exceptionTable.toList = [⟨0, 8, 11, 85⟩] := vx_table (x := yL_undo) B (hts _ List.mem_cons_self)
  subst hsz
  have hD := hD0.self (sz := s.heap.size)
  generalize hAe : va_A (wL cy ad o X (u, g, d)) s.heap.size = A at hD hSt hE ⊢
  have hA : ∀ q : Nat, s.heap.size ≤ q → A q := fun q h => by rw [← hAe]; exact Or.inr h
  have hS : va_S A s.heap s.heap [] := va_S.rf
  have hP : va_P dd vwCl (wC cy ad u ++ xL cy o g d X) s.heap := hP
  have hD : va_D A (wC cy ad u ++ xL cy o g d X) := hD
  have hl := lv_entry ([.ref (ad 0), .ref o.1]) (n := 3) (Nat.le_of_ble_eq_true rfl)
  rw [lg_entry_eq]
  generalize (lg_sl ([.ref (ad 0), .ref o.1]) ++ List.replicate (3 - (lg_sl ([.ref (ad 0), .ref o.1])).length) Slot.unset).toArray = ls at hl ⊢
  have hl : lv_has ls 3 [(0, .ref (ad 0)), (1, .ref o.1)] := hl
  refine lv_aload_n hx hb dL_undo_0 rfl (lv_at hl 1 rfl) ?_
  refine lv_iconst (v := nI 0) hx hb dL_undo_1 (by decide) ?_
  refine lv_aload_n hx hb dL_undo_2 rfl (lv_at hl 0 rfl) ?_
  refine wx_calli (vx_runV (As := []) (rest := [.int (nI 0), .ref o.1]) ⟨hx, hb, hml, hown, hts⟩ (c_X2_undo l hlt dd cy ad (xL cy o g d X) tt N u _ n hn hok h_savedCount hsI) (cwV 0 hts gL_undo_X2_undo rfl rfl rfl hd_X2_undo ⟨Nat.le_of_ble_eq_true rfl, Nat.le_of_ble_eq_true rfl⟩) (wrX_V hP hK hD hSt hE hS hA (wC_0 cy ad u (xL cy o g d X)) rfl) rfl rfl hl.1 rfl (lv_room (Nat.le_of_ble_eq_true rfl)) dL_undo_3 ⟨Nat.le_of_ble_eq_true rfl, Nat.le_of_ble_eq_true rfl⟩) hD hS hA (fun E9 ce q9 u9 H locs hxs hpx hP hD hS hce hcv hcl => ?_) (fun r9 u9 H locs hp hP hD hS => ?_)
  · rcases xsE_1 hxs with ⟨hk, hE9⟩
    subst hE9
    refine vx_catch (own := RL) (name := xIS) hown [] ⟨0, 8, 11, 85⟩ [] htab (fun _ h9 => absurd h9 List.not_mem_nil) rfl (by decide) (hts (Cond.classLink RL 85 "java/lang/IllegalStateException") (List.mem_of_getElem? (i := 1) rfl)) (va_Nw.use rfl hE.2.2.1.2.2.2.2.2.2) hce hcv hcl ?_
    refine W.eq (g2 := F0 m 11 ls [.ref q9]) rfl ?_
    refine lv_astore_n (lv' := [(2, .ref q9), (0, .ref (ad 0)), (1, .ref o.1)]) hx hb dL_undo_11 rfl hl (by decide) rfl (fun ls hl => ?_)
    refine lv_iconst (v := nI 1) hx hb dL_undo_12 (by decide) ?_
    have hP : va_P dd vwCl (wL cy ad o X (u9, g, d)) H := hP
    have hD : va_D A (wL cy ad o X (u9, g, d)) := hD
    refine W.widen (k := 1) (n := 6) (Nat.le_of_ble_eq_true rfl) (Nat.le_of_ble_eq_true rfl) ?_
    exact W.iret (v := (nI 1)) hx hb hr (fun t ht hW => ⟨⟨(nI 1), (u9, g, d), rfl, ⟨by rw [hk], fun h9 => absurd (hk.symm.trans h9) (Nat.succ_ne_zero _), fun _ => hpx⟩, by rw [ht]; exact hP, va_K.moved hW.alike hK, hD⟩, hS.F ht⟩) hS.2.2 dL_undo_13
  refine lv_i2l hx hb dL_undo_6 rfl ?_
  refine wa_last hx hb hK hP hD hS (wL_57 cy ad o X u9 g d) (t0 := 1) rfl (i := 0) (by decide) (by decide) dL_undo_7 (wL_s57 cy ad o X u9 g _ d) (fun H locs hP hD hS => ?_)
  refine lv_goto (tgt := 14) hx hb dL_undo_8 (by decide) ?_
  refine lv_iconst (v := nI 0) hx hb dL_undo_14 (by decide) ?_
  have hP : va_P dd vwCl (wL cy ad o X (u9, (vp_updL g 0 r9.toInt64), d)) H := hP
  have hD : va_D A (wL cy ad o X (u9, (vp_updL g 0 r9.toInt64), d)) := hD
  refine W.widen (k := 1) (n := 6) (Nat.le_of_ble_eq_true rfl) (Nat.le_of_ble_eq_true rfl) ?_
  exact W.iret (v := (nI 0)) hx hb hr (fun t ht hW => ⟨⟨(nI 0), (u9, (vp_updL g 0 r9.toInt64), d), rfl, lwI_of hp.1 hp.2, by rw [ht]; exact hP, va_K.moved hW.alike hK, hD⟩, hS.F ht⟩) hS.2.2 dL_undo_15

/-! the reference: error, digest -/
def exD (now : Nat → Int32) (c : Nat) : UInt64 := FP.ddiv (FP.l2d (ptF now ((cn now).2.2.1 9 c) (nI 0))) (FP.l2d (ptF now ((cn now).2.2.1 9 c) (nI 1)))
def erD (now : Nat → Int32) (rx : Nat → UInt64) : Nat → UInt64
  | 0 => FP.dconst0
  | c + 1 => mxD (dfD (rx c) (exD now c)) (erD now rx c)
theorem pt0_eq (now : Nat → Int32) (v : Int64) : ptF now v (nI 0) = v / lN (Nat.gcd v.toInt.natAbs (det 9 (AM now)).toNat) := by unfold ptF; rw [if_pos rfl]
theorem pt1_eq (now : Nat → Int32) (v : Int64) : ptF now v (nI 1) = lN (det 9 (AM now)).toNat / lN (Nat.gcd v.toInt.natAbs (det 9 (AM now)).toNat) := by unfold ptF; rw [if_neg (by decide)]
theorem pt1_ne {now : Nat → Int32} {v : Int64} (h : 0 < det 9 (AM now) ∧ det 9 (AM now) < 2 ^ 62) : ptF now v (nI 1) ≠ 0 := by
  rw [pt1_eq]
  obtain ⟨n, hn⟩ : ∃ n, n = (det 9 (AM now)).toNat := ⟨_, rfl⟩
  rw [← hn]
  have h0 : 0 < n := by omega
  have h1 : n < 2 ^ 63 := by omega
  have hg := Nat.gcd_pos_of_pos_right v.toInt.natAbs h0
  have hl := Nat.gcd_le_right v.toInt.natAbs h0
  generalize Nat.gcd v.toInt.natAbs n = g at hg hl
  rw [pk_lDiv (by omega) hg (by omega)]
  intro h9
  have h8 := lN_0 (Nat.lt_of_le_of_lt (Nat.div_le_self n g) h1) h9
  have h7 := Nat.div_pos hl hg
  omega
theorem ex_bits {now : Nat → Int32} (h : 0 < det 9 (AM now) ∧ det 9 (AM now) < 2 ^ 62) (c : Nat) : (exD now c).toNat % 2 ^ 63 < 1200 * 2 ^ 52 := fin_div_l (pt1_ne h)
theorem rx_bits {bb : Nat} {x : UInt64} (h : dB bb x) (hb : bb ≤ 2 ^ 40) : x.toNat % 2 ^ 63 < 1200 * 2 ^ 52 := Nat.lt_trans (bits_B h (by omega)) (by decide)
theorem df_bits {x y : UInt64} (hx : x.toNat % 2 ^ 63 < 1200 * 2 ^ 52) (hy : y.toNat % 2 ^ 63 < 1200 * 2 ^ 52) : FP.Core.DFin (dfD x y) := by
  unfold dfD
  split
  · exact fin_sub_bits hy hx
  · exact fin_sub_bits hx hy
theorem er_fin {now : Nat → Int32} {rx : Nat → UInt64} {bb : Nat} (h : 0 < det 9 (AM now) ∧ det 9 (AM now) < 2 ^ 62) (hB : ∀ j, j < 9 → dB bb (rx j)) (hb : bb ≤ 2 ^ 40) : ∀ c, c ≤ 9 → FP.Core.DFin (erD now rx c)
  | 0, _ => fin_0
  | c + 1, hc => mx_fin (df_bits (rx_bits (hB c (by omega)) hb) (ex_bits h c)) (er_fin h hB hb c (by omega))
theorem erD_congr {now : Nat → Int32} {rx r2 : Nat → UInt64} (h : ∀ j, j < 9 → rx j = r2 j) : ∀ c, c ≤ 9 → erD now rx c = erD now r2 c
  | 0, _ => rfl
  | c + 1, hc => by rw [erD, erD, erD_congr h c (by omega), h c (by omega)]
/-- the hash: a row, the cells, the heads -/
def hmI (f : Nat → Int64) : Nat → Int64 → Int64
  | 0, h => h
  | n + 1, h => 31 * hmI f n h + f n
def hm5 (now : Nat → Int32) (rx : Nat → UInt64) : Nat → Int64 → Int64
  | 0, h => h
  | c + 1, h => 31 * (31 * (31 * (31 * (31 * hm5 now rx c h + (now (36 + c)).toInt64) + (now (45 + c)).toInt64) + (now (54 + c)).toInt64) + (now (63 + c)).toInt64) + bsD (rx c)
def hmH (now : Nat → Int32) : Nat → Int64 → Int64
  | 0, h => h
  | c + 1, h => 31 * (31 * hmH now c h + ptF now ((cn now).2.2.1 9 c) (nI 0)) + ptF now ((cn now).2.2.1 9 c) (nI 1)
def dgA (now : Nat → Int32) (rx : Nat → UInt64) : Int64 := 31 * hm5 now rx 9 (hmI (fun k => (now k).toInt64) 36 2819) + Int64.ofInt (det 9 (AM now))
def dgF (now : Nat → Int32) (rx : Nat → UInt64) (lo : Bool) (kp : Int32) : Int64 := 31 * (if lo then dgA now rx else hmH now 9 (dgA now rx)) + kp.toInt64
theorem hd_X3_error : yX3_error.cls = RX3 ∧ yX3_error.cls ≠ "java/lang/invoke/MethodHandle" ∧ yX3_error.cls ≠ "java/lang/invoke/VarHandle" ∧ (parseMethodDescriptor yX3_error.desc).map (fun d => d.parameters.length) = some 0 := by decide +kernel
set_option maxHeartbeats 4000000 in
set_option maxRecDepth 100000 in
/-- error() -/
theorem c_X3_error (l : Launch) (dd : va_G) (cy : Nat → ClassId) (ad : Nat → Nat) (X : va_W) (u : MS) (sz : Nat) (hg : GM (u.1 1)) (bb : Nat) (hB : ∀ j, j < 9 → dB bb (u.2.1 2 j)) (hB1 : bb ≤ 2 ^ 40) : Met l yX3_error wsX3_error ({ frames := 5, cells := 0, slots := 0, locals := 114 }) (va_Pc [.ref (ad 0)] (wrW dd cy (wM cy ad u ++ X) sz)) (va_Qd (fun r u9 => u9.2.2.2.2.1 = nI (if lsM u then 1 else 0) ∧ u9.1 = u.1 ∧ u9.2.1 = u.2.1 ∧ u9.2.2.2.1 = u.2.2.2.1 ∧ (lsM u = false → r = erD (u.1 1) (u.2.1 2) 9)) (wB dd cy (fun u9 : MS => wM cy ad u9 ++ X) (va_A (wM cy ad u ++ X) sz)) (va_A (wM cy ad u ++ X) sz)) 0 0 (va_A (wM cy ad u ++ X) sz) := by
  refine Met.ofW (cc := cX3_error) (maxL := 8) (ret := (some .double)) (by decide) rfl ?_
  intro p e s m args below meth c s₁ B hml hv
  obtain ⟨rfl, hsz, hP, hK, hD0⟩ := hv
  have hx := B.exec
  have hb := B.bytes
  have hr := B.returns
  have hts := atoms_spec (ws := wsX3_error) B.pre
  have hown : s.vm.findClass RX3 = some m.cls := findClass_of_methodNamed B.named
  have hlocks := B.notSynchronized
  subst hsz
  have hD := hD0.self (sz := s.heap.size)
  generalize hAe : va_A (wM cy ad u ++ X) s.heap.size = A at hD ⊢
  have hA : ∀ q : Nat, s.heap.size ≤ q → A q := fun q h => by rw [← hAe]; exact Or.inr h
  have hS : va_S A s.heap s.heap [] := va_S.rf
  have hl := lv_entry ([.ref (ad 0)]) (n := 8) (Nat.le_of_ble_eq_true rfl)
  rw [lg_entry_eq]
  generalize (lg_sl ([.ref (ad 0)]) ++ List.replicate (8 - (lg_sl ([.ref (ad 0)])).length) Slot.unset).toArray = ls at hl ⊢
  have hl : lv_has ls 8 [(0, .ref (ad 0))] := hl
  refine lv_aload_n hx hb dX3_error_0 rfl (lv_at hl 0 rfl) ?_
  refine wc_calli (va_runV (As := []) (rest := []) ⟨hx, hb, hml, hown, hts⟩ (c_X3_isSolved l dd cy ad X u _ hg) (cwV 0 hts gX3_error_X3_isSolved rfl rfl rfl hd_X3_isSolved ⟨Nat.le_of_ble_eq_true rfl, Nat.le_of_ble_eq_true rfl⟩) (wrW_V hP hK hD (wM_0 cy ad u X) rfl) rfl rfl hl.1 rfl (lv_room (Nat.le_of_ble_eq_true rfl)) dX3_error_1 ⟨Nat.le_of_ble_eq_true rfl, Nat.le_of_ble_eq_true rfl⟩) hD hS hA (fun r1 us2 H locs w3 hP hD hS => ?_)
  obtain ⟨hr1, hth, hf1, hf2, hf3, hsv⟩ := w3
  rcases Bool.eq_false_or_eq_true (lsM u) with hlo | hlo
  · have hr1 : r1 = nI 0 := by rw [hr1, hlo]; rfl
    subst hr1
    rw [hlo] at hth
    refine wn_if_ne (tgt := 9) hx hb dX3_error_4 (by decide) (by omega) (fun c4 => (by first | exact absurd c4 (by decide) | exact absurd (by decide) c4)) (fun _ => ?_)
    refine lv_dconst0 hx hb dX3_error_7 ?_
    exact W.dret (v := FP.dconst0) hx hb hr (fun t ht hW => ⟨⟨FP.dconst0, us2, rfl, ⟨by rw [hlo]; exact hth, hf1, hf2, hf3, fun q9 => absurd q9 (by rw [hlo]; decide)⟩, by rw [ht]; exact hP, va_K.moved hW.alike hK, hD⟩, hS.F ht⟩) hS.2.2 dX3_error_8
  · have hr1 : r1 = nI 1 := by rw [hr1, hlo]; rfl
    subst hr1
    rw [hlo] at hth
    have hsv := hsv hlo
    refine wn_if_ne (tgt := 9) hx hb dX3_error_4 (by decide) (by omega) (fun _ => ?_) (fun c5 => (by first | exact absurd (by decide) c5 | exact absurd c5 (by decide)))
    have hG := hg ((lsM_iff u).mp hlo)
    refine lv_dconst0 hx hb dX3_error_9 ?_
    refine lv_dstore_n (lv' := [(1, .double FP.dconst0), (0, .ref (ad 0))]) hx hb dX3_error_10 rfl hl (by decide) rfl (fun ls hl => ?_)
    refine lv_iconst (v := nI 0) hx hb dX3_error_11 (by decide) ?_
    refine lv_istore_n (lv' := [(3, .int (nI 0)), (1, .double FP.dconst0), (0, .ref (ad 0))]) hx hb dX3_error_12 rfl hl (by decide) rfl (fun ls hl => ?_)
    refine wLoopR (σ := Nat × UInt64) (fun k x ls => k = 9 - x.1 ∧ (x.1 ≤ 9) ∧ (x.2 = erD (u.1 1) (u.2.1 2) x.1) ∧ lv_has ls 8 [(3, .int (nI x.1)), (1, .double x.2), (0, .ref (ad 0))]) ?_ _ (0, FP.dconst0) _ ⟨rfl, (by omega), rfl, lv_sub hl [0, 1, 2] rfl⟩
    intro ke x ls hI ihe
    obtain ⟨c0, z⟩ := x
    obtain ⟨hke, hc0, hz, hl⟩ := hI
    have hke : ke = 9 - c0 := hke
    have hc0 : c0 ≤ 9 := hc0
    have hz : z = erD (u.1 1) (u.2.1 2) c0 := hz
    have hl : lv_has ls 8 [(3, .int (nI c0)), (1, .double z), (0, .ref (ad 0))] := hl
    refine lv_iload_n hx hb dX3_error_13 rfl (lv_at hl 0 rfl) ?_
    refine lv_bipush (v := nI 9) hx hb dX3_error_14 (by decide) ?_
    refine wn_icmp_ge (tgt := 101) hx hb dX3_error_16 (by decide) (by omega) (by omega) (fun c6 => ?_) (fun c6 => ?_)
    · refine lv_dload_n hx hb dX3_error_101 rfl (lv_at hl 1 rfl) ?_
      exact W.dret (v := z) hx hb hr (fun t ht hW => ⟨⟨z, us2, rfl, ⟨by rw [hlo]; exact hth, hf1, hf2, hf3, fun _ => by rw [hz, show c0 = 9 by omega]⟩, by rw [ht]; exact hP, va_K.moved hW.alike hK, hD⟩, hS.F ht⟩) hS.2.2 dX3_error_102
    · refine lv_aload_n hx hb dX3_error_19 rfl (lv_at hl 2 rfl) ?_
      refine lv_aload_n hx hb dX3_error_20 rfl (lv_at hl 2 rfl) ?_
      refine va_get (D := dd) (ci := 5) (v := .ref (ad 9)) (C := RX3) (T := TX3) (N := 15) hx hb hts (fun _ h9 => List.mem_cons_of_mem _ (List.mem_append_left _ (List.mem_append_left _ (List.mem_append_right _ h9)))) hown hK hP 0 (wM_0 cy ad us2 X) rfl 11 (by decide) (hts (Cond.fieldLink RX3 36 "HeadGridModel" "heads" "[J") (List.mem_of_getElem? (i := 1) rfl)) (fun _ h9 => h9) rfl dX3_error_21 ?_
      refine lv_iload_n hx hb dX3_error_24 rfl (lv_at hl 0 rfl) ?_
      refine wa_lald hx hb hK hP (wM_9 cy ad us2 X) (t0 := 1) rfl (i := c0) (by omega) (by decide) dX3_error_25 ?_
      refine lv_iconst (v := nI 0) hx hb dX3_error_26 (by decide) ?_
      have hwh : lN (det 9 (AM (u.1 1))).toNat = us2.2.2.2.2.2.1 := by rw [hsv.1]; exact (ofI_nat (Int.le_of_lt hG.2.1.1)).symm
      refine vp_callSl (va_runV (As := [.long (us2.2.2.1 9 c0), .int (nI 0)]) (rest := []) ⟨hx, hb, hml, hown, hts⟩ (c_X3_partOf l dd cy ad X us2 (us2.2.2.1 9 c0) 0 (det 9 (AM (u.1 1))).toNat (by rw [sv_9 hsv (by omega)]; exact hG.2.2.1 _ (by omega)) hwh (by have := hG.2.1; omega) (by have := hG.2.1; omega) (by omega)) (cwV 2 hts gX3_error_X3_partOf rfl rfl rfl hd_X3_partOf ⟨Nat.le_of_ble_eq_true rfl, Nat.le_of_ble_eq_true rfl⟩) (rdW_V hP hK (wM_0 cy ad us2 X) rfl) rfl rfl hl.1 rfl (lv_room (Nat.le_of_ble_eq_true rfl)) dX3_error_27 ⟨Nat.le_of_ble_eq_true rfl, Nat.le_of_ble_eq_true rfl⟩).run (fun r7 hr7 => ?_)
      have hr7 : r7 = ptF (u.1 1) ((cn (u.1 1)).2.2.1 9 c0) (nI 0) := by rw [hr7, sv_9 hsv (by omega), pt0_eq]; rfl
      have hr7 := hr7.symm
      subst hr7
      refine lv_l2d hx hb dX3_error_30 ?_
      refine lv_aload_n hx hb dX3_error_31 rfl (lv_at hl 2 rfl) ?_
      refine lv_aload_n hx hb dX3_error_32 rfl (lv_at hl 2 rfl) ?_
      refine va_get (D := dd) (ci := 5) (v := .ref (ad 9)) (C := RX3) (T := TX3) (N := 15) hx hb hts (fun _ h9 => List.mem_cons_of_mem _ (List.mem_append_left _ (List.mem_append_left _ (List.mem_append_right _ h9)))) hown hK hP 0 (wM_0 cy ad us2 X) rfl 11 (by decide) (hts (Cond.fieldLink RX3 36 "HeadGridModel" "heads" "[J") (List.mem_of_getElem? (i := 1) rfl)) (fun _ h9 => h9) rfl dX3_error_33 ?_
      refine lv_iload_n hx hb dX3_error_36 rfl (lv_at hl 0 rfl) ?_
      refine wa_lald hx hb hK hP (wM_9 cy ad us2 X) (t0 := 1) rfl (i := c0) (by omega) (by decide) dX3_error_37 ?_
      refine lv_iconst (v := nI 1) hx hb dX3_error_38 (by decide) ?_
      have hwh : lN (det 9 (AM (u.1 1))).toNat = us2.2.2.2.2.2.1 := by rw [hsv.1]; exact (ofI_nat (Int.le_of_lt hG.2.1.1)).symm
      refine vp_callSl (va_runV (As := [.long (us2.2.2.1 9 c0), .int (nI 1)]) (rest := [.double (FP.l2d (ptF (u.1 1) ((cn (u.1 1)).2.2.1 9 c0) (nI 0)))]) ⟨hx, hb, hml, hown, hts⟩ (c_X3_partOf l dd cy ad X us2 (us2.2.2.1 9 c0) 1 (det 9 (AM (u.1 1))).toNat (by rw [sv_9 hsv (by omega)]; exact hG.2.2.1 _ (by omega)) hwh (by have := hG.2.1; omega) (by have := hG.2.1; omega) (by omega)) (cwV 2 hts gX3_error_X3_partOf rfl rfl rfl hd_X3_partOf ⟨Nat.le_of_ble_eq_true rfl, Nat.le_of_ble_eq_true rfl⟩) (rdW_V hP hK (wM_0 cy ad us2 X) rfl) rfl rfl hl.1 rfl (lv_room (Nat.le_of_ble_eq_true rfl)) dX3_error_39 ⟨Nat.le_of_ble_eq_true rfl, Nat.le_of_ble_eq_true rfl⟩).run (fun r8 hr8 => ?_)
      have hr8 : r8 = ptF (u.1 1) ((cn (u.1 1)).2.2.1 9 c0) (nI 1) := by rw [hr8, sv_9 hsv (by omega), pt1_eq]; rfl
      have hr8 := hr8.symm
      subst hr8
      refine lv_l2d hx hb dX3_error_42 ?_
      refine lv_ddiv hx hb dX3_error_43 (n64_fin (fin_bits_of (ex_bits hG.2.1 c0))) ?_
      refine lv_topd (fun x9 ex9 => ?_)
      refine lv_dstore (lv' := [(4, .double x9), (3, .int (nI c0)), (1, .double z), (0, .ref (ad 0))]) hx hb dX3_error_44 hl (by decide) rfl (fun ls hl => ?_)
      have hex : x9 = exD (u.1 1) c0 := ex9
      have hrx : us2.2.1 2 c0 = u.2.1 2 c0 := by rw [hf2]
      have bx := ex_bits hG.2.1 c0
      have br := rx_bits (hB c0 (by omega)) hB1
      refine wCut (pc2 := 81) (fun ls => lv_has ls 8 [(6, .double (dfD (u.2.1 2 c0) (exD (u.1 1) c0))), (3, .int (nI c0)), (1, .double z), (0, .ref (ad 0))]) (fun K10 => ?_) (fun ls hl => ?_)
      · refine lv_aload_n hx hb dX3_error_46 rfl (lv_at hl 3 rfl) ?_
        refine va_get (D := dd) (ci := 5) (v := .ref (ad 2)) (C := RX3) (T := TX3) (N := 15) hx hb hts (fun _ h9 => List.mem_cons_of_mem _ (List.mem_append_left _ (List.mem_append_left _ (List.mem_append_right _ h9)))) hown hK hP 0 (wM_0 cy ad us2 X) rfl 1 (by decide) (hts (Cond.fieldLink RX3 13 "HeadGridModel" "relaxed" "[D") (List.mem_of_getElem? (i := 2) rfl)) (fun _ h9 => h9) rfl dX3_error_47 ?_
        refine lv_iload_n hx hb dX3_error_50 rfl (lv_at hl 1 rfl) ?_
        refine wa_dald hx hb hK hP (wM_2 cy ad us2 X) (t0 := 2) rfl (i := c0) (by omega) (by decide) dX3_error_51 ?_
        refine lv_dload hx hb dX3_error_52 (lv_at hl 0 rfl) ?_
        refine wd_gge (tgt := 70) hx hb dX3_error_54 dX3_error_55 (by decide) (fun cL => ?_) (fun cL => ?_)
        · refine lv_aload_n hx hb dX3_error_70 rfl (lv_at hl 3 rfl) ?_
          refine va_get (D := dd) (ci := 5) (v := .ref (ad 2)) (C := RX3) (T := TX3) (N := 15) hx hb hts (fun _ h9 => List.mem_cons_of_mem _ (List.mem_append_left _ (List.mem_append_left _ (List.mem_append_right _ h9)))) hown hK hP 0 (wM_0 cy ad us2 X) rfl 1 (by decide) (hts (Cond.fieldLink RX3 13 "HeadGridModel" "relaxed" "[D") (List.mem_of_getElem? (i := 2) rfl)) (fun _ h9 => h9) rfl dX3_error_71 ?_
          refine lv_iload_n hx hb dX3_error_74 rfl (lv_at hl 1 rfl) ?_
          refine wa_dald hx hb hK hP (wM_2 cy ad us2 X) (t0 := 2) rfl (i := c0) (by omega) (by decide) dX3_error_75 ?_
          refine lv_dload hx hb dX3_error_76 (lv_at hl 0 rfl) ?_
          refine lv_dsub hx hb dX3_error_78 (n64_fin (by rw [hrx, hex]; exact fin_sub_bits br bx)) ?_
          refine lv_topd (fun y11 ey11 => ?_)
          have ey11 : dfD (u.2.1 2 c0) (exD (u.1 1) c0) = y11 := (ey11.trans (by rw [hrx, hex] at cL ⊢; unfold dfD; rw [if_neg cL])).symm
          subst ey11
          refine lv_dstore (lv' := [(6, .double (dfD (u.2.1 2 c0) (exD (u.1 1) c0))), (4, .double x9), (3, .int (nI c0)), (1, .double z), (0, .ref (ad 0))]) hx hb dX3_error_79 hl (by decide) rfl (fun ls hl => ?_)
          exact K10 ls (lv_sub hl [0, 2, 3, 4] rfl)
        · refine lv_dload hx hb dX3_error_58 (lv_at hl 0 rfl) ?_
          refine lv_aload_n hx hb dX3_error_60 rfl (lv_at hl 3 rfl) ?_
          refine va_get (D := dd) (ci := 5) (v := .ref (ad 2)) (C := RX3) (T := TX3) (N := 15) hx hb hts (fun _ h9 => List.mem_cons_of_mem _ (List.mem_append_left _ (List.mem_append_left _ (List.mem_append_right _ h9)))) hown hK hP 0 (wM_0 cy ad us2 X) rfl 1 (by decide) (hts (Cond.fieldLink RX3 13 "HeadGridModel" "relaxed" "[D") (List.mem_of_getElem? (i := 2) rfl)) (fun _ h9 => h9) rfl dX3_error_61 ?_
          refine lv_iload_n hx hb dX3_error_64 rfl (lv_at hl 1 rfl) ?_
          refine wa_dald hx hb hK hP (wM_2 cy ad us2 X) (t0 := 2) rfl (i := c0) (by omega) (by decide) dX3_error_65 ?_
          refine lv_dsub hx hb dX3_error_66 (n64_fin (by rw [hrx, hex]; exact fin_sub_bits bx br)) ?_
          refine lv_goto (tgt := 79) hx hb dX3_error_67 (by decide) ?_
          refine lv_topd (fun y12 ey12 => ?_)
          have ey12 : dfD (u.2.1 2 c0) (exD (u.1 1) c0) = y12 := (ey12.trans (by rw [hrx, hex] at cL ⊢; unfold dfD; rw [if_pos cL])).symm
          subst ey12
          refine lv_dstore (lv' := [(6, .double (dfD (u.2.1 2 c0) (exD (u.1 1) c0))), (4, .double x9), (3, .int (nI c0)), (1, .double z), (0, .ref (ad 0))]) hx hb dX3_error_79 hl (by decide) rfl (fun ls hl => ?_)
          exact K10 ls (lv_sub hl [0, 2, 3, 4] rfl)
      · obtain ⟨of0, hoff⟩ : ∃ z9z, z9z = dfD (u.2.1 2 c0) (exD (u.1 1) c0) := ⟨_, rfl⟩
        have hl : lv_has ls 8 [(6, .double of0), (3, .int (nI c0)), (1, .double z), (0, .ref (ad 0))] := by rw [hoff]; exact hl
        refine lv_dload hx hb dX3_error_81 (lv_at hl 0 rfl) ?_
        refine lv_dload_n hx hb dX3_error_83 rfl (lv_at hl 2 rfl) ?_
        refine wd_lle (tgt := 93) hx hb dX3_error_84 dX3_error_85 (by decide) (fun cM => ?_) (fun cM => ?_)
        · refine lv_dload_n hx hb dX3_error_93 rfl (lv_at hl 2 rfl) ?_
          refine lv_dstore_n (lv' := [(1, .double z), (6, .double of0), (3, .int (nI c0)), (0, .ref (ad 0))]) hx hb dX3_error_94 rfl hl (by decide) rfl (fun ls hl => ?_)
          refine lv_iinc (v := (nI (c0 + 1))) (lv' := [(3, .int (nI (c0 + 1))), (1, .double z), (6, .double of0), (0, .ref (ad 0))]) hx hb dX3_error_95 hl (k := 2) rfl (nI_1 _) (by decide) rfl (fun ls hl => ?_)
          refine lv_goto (tgt := 13) hx hb dX3_error_98 (by decide) ?_
          exact ihe (9 - (c0 + 1)) (c0 + 1, z) ls (by omega) ⟨rfl, (by omega), (by show z = mxD _ _; unfold mxD; rw [if_neg (by rw [← hoff, ← hz]; exact cM)]; exact hz), lv_sub hl [0, 1, 3] rfl⟩
        · refine lv_dload hx hb dX3_error_88 (lv_at hl 0 rfl) ?_
          refine lv_goto (tgt := 94) hx hb dX3_error_90 (by decide) ?_
          refine lv_dstore_n (lv' := [(1, .double of0), (6, .double of0), (3, .int (nI c0)), (0, .ref (ad 0))]) hx hb dX3_error_94 rfl hl (by decide) rfl (fun ls hl => ?_)
          refine lv_iinc (v := (nI (c0 + 1))) (lv' := [(3, .int (nI (c0 + 1))), (1, .double of0), (6, .double of0), (0, .ref (ad 0))]) hx hb dX3_error_95 hl (k := 2) rfl (nI_1 _) (by decide) rfl (fun ls hl => ?_)
          refine lv_goto (tgt := 13) hx hb dX3_error_98 (by decide) ?_
          exact ihe (9 - (c0 + 1)) (c0 + 1, of0) ls (by omega) ⟨rfl, (by omega), (by show of0 = mxD _ _; unfold mxD; rw [if_pos (by rw [← hoff, ← hz]; exact cM)]; exact hoff), lv_sub hl [0, 1, 3] rfl⟩
theorem hd_X3_digest : yX3_digest.cls = RX3 ∧ yX3_digest.cls ≠ "java/lang/invoke/MethodHandle" ∧ yX3_digest.cls ≠ "java/lang/invoke/VarHandle" ∧ (parseMethodDescriptor yX3_digest.desc).map (fun d => d.parameters.length) = some 0 := by decide +kernel
set_option maxHeartbeats 4000000 in
set_option maxRecDepth 100000 in
/-- digest() -/
theorem c_X3_digest (l : Launch) (dd : va_G) (cy : Nat → ClassId) (ad : Nat → Nat) (X : va_W) (u : MS) (sz : Nat) (hg : GM (u.1 1)) (bb : Nat) (hB : ∀ j, j < 9 → dB bb (u.2.1 2 j)) (hB1 : bb ≤ 2 ^ 40) : Met l yX3_digest wsX3_digest ({ frames := 4, cells := 0, slots := 0, locals := 94 }) (va_Pc [.ref (ad 0)] (wrW dd cy (wM cy ad u ++ X) sz)) (va_Ql (fun r u9 => r = dgF (u.1 1) (u.2.1 2) (lsM u) u.2.2.2.1 ∧ u9.2.2.2.2.1 = nI 0 ∧ u9.1 = u.1 ∧ u9.2.1 = u.2.1 ∧ u9.2.2.2.1 = u.2.2.2.1) (wB dd cy (fun u9 : MS => wM cy ad u9 ++ X) (va_A (wM cy ad u ++ X) sz)) (va_A (wM cy ad u ++ X) sz)) 0 0 (va_A (wM cy ad u ++ X) sz) := by
  refine Met.ofW (cc := cX3_digest) (maxL := 3) (ret := (some .long)) (by decide) rfl ?_
  intro p e s m args below meth c s₁ B hml hv
  obtain ⟨rfl, hsz, hP, hK, hD0⟩ := hv
  have hx := B.exec
  have hb := B.bytes
  have hr := B.returns
  have hts := atoms_spec (ws := wsX3_digest) B.pre
  have hown : s.vm.findClass RX3 = some m.cls := findClass_of_methodNamed B.named
  have hlocks := B.notSynchronized
  subst hsz
  have hD := hD0.self (sz := s.heap.size)
  generalize hAe : va_A (wM cy ad u ++ X) s.heap.size = A at hD ⊢
  have hA : ∀ q : Nat, s.heap.size ≤ q → A q := fun q h => by rw [← hAe]; exact Or.inr h
  have hS : va_S A s.heap s.heap [] := va_S.rf
  have hl := lv_entry ([.ref (ad 0)]) (n := 3) (Nat.le_of_ble_eq_true rfl)
  rw [lg_entry_eq]
  generalize (lg_sl ([.ref (ad 0)]) ++ List.replicate (3 - (lg_sl ([.ref (ad 0)])).length) Slot.unset).toArray = ls at hl ⊢
  have hl : lv_has ls 3 [(0, .ref (ad 0))] := hl
  refine lv_aload_n hx hb dX3_digest_0 rfl (lv_at hl 0 rfl) ?_
  refine lv_iconst (v := nI 0) hx hb dX3_digest_1 (by decide) ?_
  refine va_put (D := dd) (ci := 5) (v := .int (nI 0)) (ty := .int) (C := RX3) (T := TX3) (N := 15) hx hb hts (fun _ h9 => List.mem_cons_of_mem _ (List.mem_append_left _ (List.mem_append_left _ (List.mem_append_right _ h9)))) tyX3 tyX3_ok nmX3 hown hK hP hD hS 0 (wM_0 cy ad u X) rfl 5 (by decide) (hts (Cond.fieldLink RX3 45 "HeadGridModel" "thrown" "I") (List.mem_of_getElem? (i := 1) rfl)) (fun _ h9 => h9) rfl (tyX3_ok 5 (by decide)) rfl rfl (Nat.le_of_ble_eq_true rfl) dX3_digest_2 (fun H locs hP hD hS => ?_)
  have hP : va_P dd vwCl (wM cy ad (u.1, u.2.1, u.2.2.1, u.2.2.2.1, (nI 0), u.2.2.2.2.2) ++ X) H := hP
  have hD : va_D A (wM cy ad (u.1, u.2.1, u.2.2.1, u.2.2.2.1, (nI 0), u.2.2.2.2.2) ++ X) := hD
  obtain ⟨us1, hus1⟩ : ∃ z9z : MS, z9z = (u.1, u.2.1, u.2.2.1, u.2.2.2.1, (nI 0), u.2.2.2.2.2) := ⟨_, rfl⟩
  rw [← hus1] at hP hD
  have pus1_1 : us1.1 = u.1 := by rw [hus1]
  have pus1_21 : us1.2.1 = u.2.1 := by rw [hus1]
  have pus1_221 : us1.2.2.1 = u.2.2.1 := by rw [hus1]
  have pus1_kept : us1.2.2.2.1 = u.2.2.2.1 := by rw [hus1]
  have h_thrown : (nI 0) = us1.2.2.2.2.1 := by rw [hus1]
  have pus1_whole : us1.2.2.2.2.2.1 = u.2.2.2.2.2.1 := by rw [hus1]
  have pus1_hash : us1.2.2.2.2.2.2 = u.2.2.2.2.2.2 := by rw [hus1]
  have qus1_1 : us1.1 = u.1 := pus1_1.trans rfl
  have qus1_21 : us1.2.1 = u.2.1 := pus1_21.trans rfl
  have qus1_k : us1.2.2.2.1 = u.2.2.2.1 := pus1_kept.trans rfl
  refine lv_aload_n hx hb dX3_digest_5 rfl (lv_at hl 0 rfl) ?_
  refine lv_ldc2 hx hb hown (hts _ (List.mem_of_getElem? (i := 2) rfl)) dX3_digest_6 ?_
  refine va_put (D := dd) (ci := 5) (v := .long 2819) (ty := .long) (C := RX3) (T := TX3) (N := 15) hx hb hts (fun _ h9 => List.mem_cons_of_mem _ (List.mem_append_left _ (List.mem_append_left _ (List.mem_append_right _ h9)))) tyX3 tyX3_ok nmX3 hown hK hP hD hS 0 (wM_0 cy ad us1 X) rfl 14 (by decide) (hts (Cond.fieldLink RX3 163 "HeadGridModel" "hash" "J") (List.mem_of_getElem? (i := 3) rfl)) (fun _ h9 => h9) rfl (tyX3_ok 14 (by decide)) rfl rfl (Nat.le_of_ble_eq_true rfl) dX3_digest_9 (fun H locs hP hD hS => ?_)
  have hP : va_P dd vwCl (wM cy ad (us1.1, us1.2.1, us1.2.2.1, us1.2.2.2.1, us1.2.2.2.2.1, us1.2.2.2.2.2.1, 2819) ++ X) H := hP
  have hD : va_D A (wM cy ad (us1.1, us1.2.1, us1.2.2.1, us1.2.2.2.1, us1.2.2.2.2.1, us1.2.2.2.2.2.1, 2819) ++ X) := hD
  obtain ⟨us2, hus2⟩ : ∃ z9z : MS, z9z = (us1.1, us1.2.1, us1.2.2.1, us1.2.2.2.1, us1.2.2.2.2.1, us1.2.2.2.2.2.1, 2819) := ⟨_, rfl⟩
  rw [← hus2] at hP hD
  have pus2_1 : us2.1 = us1.1 := by rw [hus2]
  have pus2_21 : us2.2.1 = us1.2.1 := by rw [hus2]
  have pus2_221 : us2.2.2.1 = us1.2.2.1 := by rw [hus2]
  have pus2_kept : us2.2.2.2.1 = us1.2.2.2.1 := by rw [hus2]
  have pus2_thrown : us2.2.2.2.2.1 = us1.2.2.2.2.1 := by rw [hus2]
  have h_thrown : (nI 0) = us2.2.2.2.2.1 := by rw [pus2_thrown]; exact h_thrown
  have pus2_whole : us2.2.2.2.2.2.1 = us1.2.2.2.2.2.1 := by rw [hus2]
  have h_hash : 2819 = us2.2.2.2.2.2.2 := by rw [hus2]
  have qus2_1 : us2.1 = u.1 := pus2_1.trans qus1_1
  have qus2_21 : us2.2.1 = u.2.1 := pus2_21.trans qus1_21
  have qus2_k : us2.2.2.2.1 = u.2.2.2.1 := pus2_kept.trans qus1_k
  have ah_0 : us2.2.2.2.2.2.2 = 2819 := h_hash.symm
  have at_0 : us2.2.2.2.2.1 = nI 0 := h_thrown.symm
  refine lv_iconst (v := nI 0) hx hb dX3_digest_12 (by decide) ?_
  refine lv_istore_n (lv' := [(1, .int (nI 0)), (0, .ref (ad 0))]) hx hb dX3_digest_13 rfl hl (by decide) rfl (fun ls hl => ?_)
  refine wLoop (σ := Nat × MS) (fun k x H locs ls => k = 36 - x.1 ∧ (x.1 ≤ 36) ∧ (x.2.1 = u.1) ∧ (x.2.2.1 = u.2.1) ∧ (x.2.2.2.2.1 = u.2.2.2.1) ∧ (x.2.2.2.2.2.1 = nI 0) ∧ (x.2.2.2.2.2.2.2 = hmI (fun k9 => (u.1 1 k9).toInt64) x.1 2819) ∧ va_P dd vwCl (wM cy ad x.2 ++ X) H ∧ va_D A (wM cy ad x.2 ++ X) ∧ va_S A s.heap H locs ∧ lv_has ls 3 [(1, .int (nI x.1)), (0, .ref (ad 0))]) ?_ _ (0, us2) _ _ _ ⟨rfl, (by omega), qus2_1, qus2_21, qus2_k, at_0, (ah_0.trans rfl), hP, hD, hS, lv_sub hl [0, 1] rfl⟩
  intro ka x H locs ls hI iha
  obtain ⟨j0, u1⟩ := x
  obtain ⟨hka, hj, a1, a2, ak, at0, ah, hP, hD, hS, hl⟩ := hI
  have hka : ka = 36 - j0 := hka
  have hj : j0 ≤ 36 := hj
  have a1 : u1.1 = u.1 := a1
  have a2 : u1.2.1 = u.2.1 := a2
  have ak : u1.2.2.2.1 = u.2.2.2.1 := ak
  have at0 : u1.2.2.2.2.1 = nI 0 := at0
  have ah : u1.2.2.2.2.2.2 = hmI (fun k9 => (u.1 1 k9).toInt64) j0 2819 := ah
  have hP : va_P dd vwCl (wM cy ad u1 ++ X) H := hP
  have hD : va_D A (wM cy ad u1 ++ X) := hD
  have hl : lv_has ls 3 [(1, .int (nI j0)), (0, .ref (ad 0))] := hl
  refine lv_iload_n hx hb dX3_digest_14 rfl (lv_at hl 0 rfl) ?_
  refine lv_bipush (v := nI 36) hx hb dX3_digest_15 (by decide) ?_
  refine wn_icmp_ge (tgt := 37) hx hb dX3_digest_17 (by decide) (by omega) (by omega) (fun c3 => ?_) (fun c3 => ?_)
  · have ahA : u1.2.2.2.2.2.2 = hm5 (u.1 1) (u.2.1 2) 0 (hmI (fun k9 => (u.1 1 k9).toInt64) 36 2819) := by rw [ah, show j0 = 36 by omega]; rfl
    refine lv_iconst (v := nI 0) hx hb dX3_digest_37 (by decide) ?_
    refine lv_istore_n (lv' := [(1, .int (nI 0)), (0, .ref (ad 0))]) hx hb dX3_digest_38 rfl hl (by decide) rfl (fun ls hl => ?_)
    refine wLoop (σ := Nat × MS) (fun k x H locs ls => k = 9 - x.1 ∧ (x.1 ≤ 9) ∧ (x.2.1 = u.1) ∧ (x.2.2.1 = u.2.1) ∧ (x.2.2.2.2.1 = u.2.2.2.1) ∧ (x.2.2.2.2.2.1 = nI 0) ∧ (x.2.2.2.2.2.2.2 = hm5 (u.1 1) (u.2.1 2) x.1 (hmI (fun k9 => (u.1 1 k9).toInt64) 36 2819)) ∧ va_P dd vwCl (wM cy ad x.2 ++ X) H ∧ va_D A (wM cy ad x.2 ++ X) ∧ va_S A s.heap H locs ∧ lv_has ls 3 [(1, .int (nI x.1)), (0, .ref (ad 0))]) ?_ _ (0, u1) _ _ _ ⟨rfl, (by omega), a1, a2, ak, at0, (ahA.trans rfl), hP, hD, hS, lv_sub hl [0, 1] rfl⟩
    intro kb x H locs ls hI ihb
    obtain ⟨j0, u1⟩ := x
    obtain ⟨hkb, hj, a1, a2, ak, at0, ah, hP, hD, hS, hl⟩ := hI
    have hkb : kb = 9 - j0 := hkb
    have hj : j0 ≤ 9 := hj
    have a1 : u1.1 = u.1 := a1
    have a2 : u1.2.1 = u.2.1 := a2
    have ak : u1.2.2.2.1 = u.2.2.2.1 := ak
    have at0 : u1.2.2.2.2.1 = nI 0 := at0
    have ah : u1.2.2.2.2.2.2 = hm5 (u.1 1) (u.2.1 2) j0 (hmI (fun k9 => (u.1 1 k9).toInt64) 36 2819) := ah
    have hP : va_P dd vwCl (wM cy ad u1 ++ X) H := hP
    have hD : va_D A (wM cy ad u1 ++ X) := hD
    have hl : lv_has ls 3 [(1, .int (nI j0)), (0, .ref (ad 0))] := hl
    refine lv_iload_n hx hb dX3_digest_39 rfl (lv_at hl 0 rfl) ?_
    refine lv_bipush (v := nI 9) hx hb dX3_digest_40 (by decide) ?_
    refine wn_icmp_ge (tgt := 120) hx hb dX3_digest_42 (by decide) (by omega) (by omega) (fun c4 => ?_) (fun c4 => ?_)
    · have ahB : u1.2.2.2.2.2.2 = hm5 (u.1 1) (u.2.1 2) 9 (hmI (fun k9 => (u.1 1 k9).toInt64) 36 2819) := by rw [ah, show j0 = 9 by omega]
      refine lv_aload_n hx hb dX3_digest_120 rfl (lv_at hl 1 rfl) ?_
      refine lv_aload_n hx hb dX3_digest_121 rfl (lv_at hl 1 rfl) ?_
      refine wc_calll (va_runV (As := []) (rest := [.ref (ad 0)]) ⟨hx, hb, hml, hown, hts⟩ (c_X3_determinantNow l dd cy ad X u1 _) (cwV 0 hts gX3_digest_X3_determinantNow rfl rfl rfl hd_X3_determinantNow ⟨Nat.le_of_ble_eq_true rfl, Nat.le_of_ble_eq_true rfl⟩) (wrW_V hP hK hD (wM_0 cy ad u1 X) rfl) rfl rfl hl.1 rfl (lv_room (Nat.le_of_ble_eq_true rfl)) dX3_digest_122 ⟨Nat.le_of_ble_eq_true rfl, Nat.le_of_ble_eq_true rfl⟩) hD hS hA (fun r5 us6 H locs w7 hP hD hS => ?_)
      obtain ⟨er5, hfD, htD, hhD⟩ := w7
      rw [a1] at er5
      subst er5
      have a1_us6 : us6.1 = u.1 := hfD.1.trans a1
      have a2_us6 : us6.2.1 = u.2.1 := hfD.2.1.trans a2
      have ak_us6 : us6.2.2.2.1 = u.2.2.2.1 := hfD.2.2.trans ak
      have at_us6 : us6.2.2.2.2.1 = nI 0 := htD.trans at0
      have ah_us6 : us6.2.2.2.2.2.2 = hm5 (u.1 1) (u.2.1 2) 9 (hmI (fun k9 => (u.1 1 k9).toInt64) 36 2819) := hhD.trans ahB
      refine wc_callv (va_runV (As := [.long (Int64.ofInt (det 9 (AM (u.1 1))))]) (rest := []) ⟨hx, hb, hml, hown, hts⟩ (c_X3_mix l dd cy ad X us6 _ (Int64.ofInt (det 9 (AM (u.1 1))))) (cwV 1 hts gX3_digest_X3_mix rfl rfl rfl hd_X3_mix ⟨Nat.le_of_ble_eq_true rfl, Nat.le_of_ble_eq_true rfl⟩) (wrW_V hP hK hD (wM_0 cy ad us6 X) rfl) rfl rfl hl.1 rfl (lv_room (Nat.le_of_ble_eq_true rfl)) dX3_digest_125 ⟨Nat.le_of_ble_eq_true rfl, Nat.le_of_ble_eq_true rfl⟩) hD hS hA (fun us8 H locs w9 hP hD hS => ?_)
      have a1_us8 : us8.1 = u.1 := by rw [w9]; exact a1_us6
      have a2_us8 : us8.2.1 = u.2.1 := by rw [w9]; exact a2_us6
      have ak_us8 : us8.2.2.2.1 = u.2.2.2.1 := by rw [w9]; exact ak_us6
      have at_us8 : us8.2.2.2.2.1 = nI 0 := by rw [w9]; exact at_us6
      have ah_us8 : us8.2.2.2.2.2.2 = 31 * (hm5 (u.1 1) (u.2.1 2) 9 (hmI (fun k9 => (u.1 1 k9).toInt64) 36 2819)) + (Int64.ofInt (det 9 (AM (u.1 1)))) := by rw [w9]; show 31 * us6.2.2.2.2.2.2 + _ = _; rw [ah_us6]
      refine lv_aload_n hx hb dX3_digest_128 rfl (lv_at hl 1 rfl) ?_
      have hg9 : GM (us8.1 1) := by rw [a1_us8]; exact hg
      refine wc_calli (va_runV (As := []) (rest := []) ⟨hx, hb, hml, hown, hts⟩ (c_X3_solves l dd cy ad X us8 _ (fun q9 => (hg9 ((lsM_iff us8).mp q9)).1)) (cwV 0 hts gX3_digest_X3_solves rfl rfl rfl hd_X3_solves ⟨Nat.le_of_ble_eq_true rfl, Nat.le_of_ble_eq_true rfl⟩) (wrW_V hP hK hD (wM_0 cy ad us8 X) rfl) rfl rfl hl.1 rfl (lv_room (Nat.le_of_ble_eq_true rfl)) dX3_digest_129 ⟨Nat.le_of_ble_eq_true rfl, Nat.le_of_ble_eq_true rfl⟩) hD hS hA (fun r10 us11 H locs w12 hP hD hS => ?_)
      have hls9 : lsM us8 = lsM u := lsM_congr a1_us8
      rcases Bool.eq_false_or_eq_true (lsM u) with hlo | hlo
      · obtain ⟨hr10, e9⟩ := w12.1 (hls9.trans hlo)
        subst hr10
        rw [e9] at hP hD
        refine lv_istore_n (lv' := [(1, .int (nI 0)), (0, .ref (ad 0))]) hx hb dX3_digest_132 rfl hl (by decide) rfl (fun ls hl => ?_)
        refine lv_iconst (v := nI 0) hx hb dX3_digest_133 (by decide) ?_
        refine lv_istore_n (lv' := [(2, .int (nI 0)), (1, .int (nI 0)), (0, .ref (ad 0))]) hx hb dX3_digest_134 rfl hl (by decide) rfl (fun ls hl => ?_)
        refine lv_iload_n hx hb dX3_digest_135 rfl (lv_at hl 0 rfl) ?_
        refine lv_bipush (v := nI 9) hx hb dX3_digest_136 (by decide) ?_
        refine wn_icmp_ge (tgt := 181) hx hb dX3_digest_138 (by decide) (by omega) (by omega) (fun c13 => (by first | exact absurd c13 (by decide) | exact absurd (by decide) c13)) (fun _ => ?_)
        refine lv_iload_n hx hb dX3_digest_141 rfl (lv_at hl 1 rfl) ?_
        refine wn_if_eq (tgt := 181) hx hb dX3_digest_142 (by decide) (by omega) (fun _ => ?_) (fun c14 => (by first | exact absurd (by decide) c14 | exact absurd c14 (by decide)))
        refine lv_aload_n hx hb dX3_digest_181 rfl (lv_at hl 2 rfl) ?_
        refine lv_aload_n hx hb dX3_digest_182 rfl (lv_at hl 2 rfl) ?_
        refine va_get (D := dd) (ci := 5) (v := .int us8.2.2.2.1) (C := RX3) (T := TX3) (N := 15) hx hb hts (fun _ h9 => List.mem_cons_of_mem _ (List.mem_append_left _ (List.mem_append_left _ (List.mem_append_right _ h9)))) hown hK hP 0 (wM_0 cy ad us8 X) rfl 4 (by decide) (hts (Cond.fieldLink RX3 53 "HeadGridModel" "kept" "I") (List.mem_of_getElem? (i := 7) rfl)) (fun _ h9 => h9) rfl dX3_digest_183 ?_
        refine lv_i2l hx hb dX3_digest_186 rfl ?_
        refine wc_callv (va_runV (As := [.long us8.2.2.2.1.toInt64]) (rest := []) ⟨hx, hb, hml, hown, hts⟩ (c_X3_mix l dd cy ad X us8 _ us8.2.2.2.1.toInt64) (cwV 1 hts gX3_digest_X3_mix rfl rfl rfl hd_X3_mix ⟨Nat.le_of_ble_eq_true rfl, Nat.le_of_ble_eq_true rfl⟩) (wrW_V hP hK hD (wM_0 cy ad us8 X) rfl) rfl rfl hl.1 rfl (lv_room (Nat.le_of_ble_eq_true rfl)) dX3_digest_187 ⟨Nat.le_of_ble_eq_true rfl, Nat.le_of_ble_eq_true rfl⟩) hD hS hA (fun us15 H locs w16 hP hD hS => ?_)
        have a1_us15 : us15.1 = u.1 := by rw [w16]; exact a1_us8
        have a2_us15 : us15.2.1 = u.2.1 := by rw [w16]; exact a2_us8
        have ak_us15 : us15.2.2.2.1 = u.2.2.2.1 := by rw [w16]; exact ak_us8
        have at_us15 : us15.2.2.2.2.1 = nI 0 := by rw [w16]; exact at_us8
        have ah_us15 : us15.2.2.2.2.2.2 = 31 * (31 * (hm5 (u.1 1) (u.2.1 2) 9 (hmI (fun k9 => (u.1 1 k9).toInt64) 36 2819)) + (Int64.ofInt (det 9 (AM (u.1 1))))) + u.2.2.2.1.toInt64 := by rw [w16]; show 31 * us8.2.2.2.2.2.2 + _ = _; rw [ah_us8, ak_us8]
        refine lv_aload_n hx hb dX3_digest_190 rfl (lv_at hl 2 rfl) ?_
        refine va_get (D := dd) (ci := 5) (v := .long us15.2.2.2.2.2.2) (C := RX3) (T := TX3) (N := 15) hx hb hts (fun _ h9 => List.mem_cons_of_mem _ (List.mem_append_left _ (List.mem_append_left _ (List.mem_append_right _ h9)))) hown hK hP 0 (wM_0 cy ad us15 X) rfl 14 (by decide) (hts (Cond.fieldLink RX3 163 "HeadGridModel" "hash" "J") (List.mem_of_getElem? (i := 3) rfl)) (fun _ h9 => h9) rfl dX3_digest_191 ?_
        exact W.lret (v := us15.2.2.2.2.2.2) hx hb hr (fun t ht hW => ⟨⟨us15.2.2.2.2.2.2, us15, rfl, ⟨by rw [ah_us15]; unfold dgF; rw [hlo]; rfl, at_us15, a1_us15, a2_us15, ak_us15⟩, by rw [ht]; exact hP, va_K.moved hW.alike hK, hD⟩, hS.F ht⟩) hS.2.2 dX3_digest_194
      · have hG := hg ((lsM_iff u).mp hlo)
        obtain ⟨hr10, hfs, hth, hhs, hsv⟩ := w12.2 (hls9.trans hlo)
        subst hr10
        rw [a1_us8] at hsv
        have a1_us11 : us11.1 = u.1 := hfs.1.trans a1_us8
        have a2_us11 : us11.2.1 = u.2.1 := hfs.2.1.trans a2_us8
        have ak_us11 : us11.2.2.2.1 = u.2.2.2.1 := hfs.2.2.trans ak_us8
        have at_us11 : us11.2.2.2.2.1 = nI 0 := hth.trans at_us8
        have ah_us11 : us11.2.2.2.2.2.2 = 31 * (hm5 (u.1 1) (u.2.1 2) 9 (hmI (fun k9 => (u.1 1 k9).toInt64) 36 2819)) + (Int64.ofInt (det 9 (AM (u.1 1)))) := hhs.trans ah_us8
        refine lv_istore_n (lv' := [(1, .int (nI 1)), (0, .ref (ad 0))]) hx hb dX3_digest_132 rfl hl (by decide) rfl (fun ls hl => ?_)
        refine lv_iconst (v := nI 0) hx hb dX3_digest_133 (by decide) ?_
        refine lv_istore_n (lv' := [(2, .int (nI 0)), (1, .int (nI 1)), (0, .ref (ad 0))]) hx hb dX3_digest_134 rfl hl (by decide) rfl (fun ls hl => ?_)
        refine wLoop (σ := Nat × MS) (fun k x H locs ls => k = 9 - x.1 ∧ (x.1 ≤ 9) ∧ (x.2.1 = u.1) ∧ (x.2.2.1 = u.2.1) ∧ (x.2.2.2.2.1 = u.2.2.2.1) ∧ (x.2.2.2.2.2.1 = nI 0) ∧ (x.2.2.2.2.2.2.2 = hmH (u.1 1) x.1 (dgA (u.1 1) (u.2.1 2))) ∧ (svd (u.1 1) x.2) ∧ va_P dd vwCl (wM cy ad x.2 ++ X) H ∧ va_D A (wM cy ad x.2 ++ X) ∧ va_S A s.heap H locs ∧ lv_has ls 3 [(2, .int (nI x.1)), (1, .int (nI 1)), (0, .ref (ad 0))]) ?_ _ (0, us11) _ _ _ ⟨rfl, (by omega), a1_us11, a2_us11, ak_us11, at_us11, (ah_us11.trans rfl), hsv, hP, hD, hS, lv_sub hl [0, 1, 2] rfl⟩
        intro kc x H locs ls hI ihc
        obtain ⟨j0, u1⟩ := x
        obtain ⟨hkc, hj, a1, a2, ak, at0, ah, hsv, hP, hD, hS, hl⟩ := hI
        have hkc : kc = 9 - j0 := hkc
        have hj : j0 ≤ 9 := hj
        have a1 : u1.1 = u.1 := a1
        have a2 : u1.2.1 = u.2.1 := a2
        have ak : u1.2.2.2.1 = u.2.2.2.1 := ak
        have at0 : u1.2.2.2.2.1 = nI 0 := at0
        have ah : u1.2.2.2.2.2.2 = hmH (u.1 1) j0 (dgA (u.1 1) (u.2.1 2)) := ah
        have hsv : svd (u.1 1) u1 := hsv
        have hP : va_P dd vwCl (wM cy ad u1 ++ X) H := hP
        have hD : va_D A (wM cy ad u1 ++ X) := hD
        have hl : lv_has ls 3 [(2, .int (nI j0)), (1, .int (nI 1)), (0, .ref (ad 0))] := hl
        refine lv_iload_n hx hb dX3_digest_135 rfl (lv_at hl 0 rfl) ?_
        refine lv_bipush (v := nI 9) hx hb dX3_digest_136 (by decide) ?_
        refine wn_icmp_ge (tgt := 181) hx hb dX3_digest_138 (by decide) (by omega) (by omega) (fun c17 => ?_) (fun c17 => ?_)
        · have ahC : u1.2.2.2.2.2.2 = hmH (u.1 1) 9 (dgA (u.1 1) (u.2.1 2)) := by rw [ah, show j0 = 9 by omega]
          refine lv_aload_n hx hb dX3_digest_181 rfl (lv_at hl 2 rfl) ?_
          refine lv_aload_n hx hb dX3_digest_182 rfl (lv_at hl 2 rfl) ?_
          refine va_get (D := dd) (ci := 5) (v := .int u1.2.2.2.1) (C := RX3) (T := TX3) (N := 15) hx hb hts (fun _ h9 => List.mem_cons_of_mem _ (List.mem_append_left _ (List.mem_append_left _ (List.mem_append_right _ h9)))) hown hK hP 0 (wM_0 cy ad u1 X) rfl 4 (by decide) (hts (Cond.fieldLink RX3 53 "HeadGridModel" "kept" "I") (List.mem_of_getElem? (i := 7) rfl)) (fun _ h9 => h9) rfl dX3_digest_183 ?_
          refine lv_i2l hx hb dX3_digest_186 rfl ?_
          refine wc_callv (va_runV (As := [.long u1.2.2.2.1.toInt64]) (rest := []) ⟨hx, hb, hml, hown, hts⟩ (c_X3_mix l dd cy ad X u1 _ u1.2.2.2.1.toInt64) (cwV 1 hts gX3_digest_X3_mix rfl rfl rfl hd_X3_mix ⟨Nat.le_of_ble_eq_true rfl, Nat.le_of_ble_eq_true rfl⟩) (wrW_V hP hK hD (wM_0 cy ad u1 X) rfl) rfl rfl hl.1 rfl (lv_room (Nat.le_of_ble_eq_true rfl)) dX3_digest_187 ⟨Nat.le_of_ble_eq_true rfl, Nat.le_of_ble_eq_true rfl⟩) hD hS hA (fun us18 H locs w19 hP hD hS => ?_)
          have a1_us18 : us18.1 = u.1 := by rw [w19]; exact a1
          have a2_us18 : us18.2.1 = u.2.1 := by rw [w19]; exact a2
          have ak_us18 : us18.2.2.2.1 = u.2.2.2.1 := by rw [w19]; exact ak
          have at_us18 : us18.2.2.2.2.1 = nI 0 := by rw [w19]; exact at0
          have ah_us18 : us18.2.2.2.2.2.2 = 31 * (hmH (u.1 1) 9 (dgA (u.1 1) (u.2.1 2))) + u.2.2.2.1.toInt64 := by rw [w19]; show 31 * u1.2.2.2.2.2.2 + _ = _; rw [ahC, ak]
          have as_us18 : svd (u.1 1) us18 := by rw [w19]; exact ⟨hsv.1, hsv.2.1, hsv.2.2⟩
          have hsv := as_us18
          refine lv_aload_n hx hb dX3_digest_190 rfl (lv_at hl 2 rfl) ?_
          refine va_get (D := dd) (ci := 5) (v := .long us18.2.2.2.2.2.2) (C := RX3) (T := TX3) (N := 15) hx hb hts (fun _ h9 => List.mem_cons_of_mem _ (List.mem_append_left _ (List.mem_append_left _ (List.mem_append_right _ h9)))) hown hK hP 0 (wM_0 cy ad us18 X) rfl 14 (by decide) (hts (Cond.fieldLink RX3 163 "HeadGridModel" "hash" "J") (List.mem_of_getElem? (i := 3) rfl)) (fun _ h9 => h9) rfl dX3_digest_191 ?_
          exact W.lret (v := us18.2.2.2.2.2.2) hx hb hr (fun t ht hW => ⟨⟨us18.2.2.2.2.2.2, us18, rfl, ⟨by rw [ah_us18]; unfold dgF; rw [hlo]; rfl, at_us18, a1_us18, a2_us18, ak_us18⟩, by rw [ht]; exact hP, va_K.moved hW.alike hK, hD⟩, hS.F ht⟩) hS.2.2 dX3_digest_194
        · refine lv_iload_n hx hb dX3_digest_141 rfl (lv_at hl 1 rfl) ?_
          refine wn_if_eq (tgt := 181) hx hb dX3_digest_142 (by decide) (by omega) (fun c20 => (by first | exact absurd c20 (by decide) | exact absurd (by decide) c20)) (fun _ => ?_)
          refine lv_aload_n hx hb dX3_digest_145 rfl (lv_at hl 2 rfl) ?_
          refine lv_aload_n hx hb dX3_digest_146 rfl (lv_at hl 2 rfl) ?_
          refine lv_aload_n hx hb dX3_digest_147 rfl (lv_at hl 2 rfl) ?_
          refine va_get (D := dd) (ci := 5) (v := .ref (ad 9)) (C := RX3) (T := TX3) (N := 15) hx hb hts (fun _ h9 => List.mem_cons_of_mem _ (List.mem_append_left _ (List.mem_append_left _ (List.mem_append_right _ h9)))) hown hK hP 0 (wM_0 cy ad u1 X) rfl 11 (by decide) (hts (Cond.fieldLink RX3 36 "HeadGridModel" "heads" "[J") (List.mem_of_getElem? (i := 6) rfl)) (fun _ h9 => h9) rfl dX3_digest_148 ?_
          refine lv_iload_n hx hb dX3_digest_151 rfl (lv_at hl 0 rfl) ?_
          refine wa_lald hx hb hK hP (wM_9 cy ad u1 X) (t0 := 1) rfl (i := j0) (by omega) (by decide) dX3_digest_152 ?_
          refine lv_iconst (v := nI 0) hx hb dX3_digest_153 (by decide) ?_
          have hwh : lN (det 9 (AM (u.1 1))).toNat = u1.2.2.2.2.2.1 := by rw [hsv.1]; exact (ofI_nat (Int.le_of_lt hG.2.1.1)).symm
          refine vp_callSl (va_runV (As := [.long (u1.2.2.1 9 j0), .int (nI 0)]) (rest := [.ref (ad 0)]) ⟨hx, hb, hml, hown, hts⟩ (c_X3_partOf l dd cy ad X u1 (u1.2.2.1 9 j0) 0 (det 9 (AM (u.1 1))).toNat (by rw [sv_9 hsv (by omega)]; exact hG.2.2.1 _ (by omega)) hwh (by have := hG.2.1; omega) (by have := hG.2.1; omega) (by omega)) (cwV 2 hts gX3_digest_X3_partOf rfl rfl rfl hd_X3_partOf ⟨Nat.le_of_ble_eq_true rfl, Nat.le_of_ble_eq_true rfl⟩) (rdW_V hP hK (wM_0 cy ad u1 X) rfl) rfl rfl hl.1 rfl (lv_room (Nat.le_of_ble_eq_true rfl)) dX3_digest_154 ⟨Nat.le_of_ble_eq_true rfl, Nat.le_of_ble_eq_true rfl⟩).run (fun r21 hr21 => ?_)
          have hr21 : r21 = ptF (u.1 1) ((cn (u.1 1)).2.2.1 9 j0) (nI 0) := by rw [hr21, sv_9 hsv (by omega), pt0_eq]; rfl
          have hr21 := hr21.symm
          subst hr21
          refine wc_callv (va_runV (As := [.long (ptF (u.1 1) ((cn (u.1 1)).2.2.1 9 j0) (nI 0))]) (rest := []) ⟨hx, hb, hml, hown, hts⟩ (c_X3_mix l dd cy ad X u1 _ (ptF (u.1 1) ((cn (u.1 1)).2.2.1 9 j0) (nI 0))) (cwV 1 hts gX3_digest_X3_mix rfl rfl rfl hd_X3_mix ⟨Nat.le_of_ble_eq_true rfl, Nat.le_of_ble_eq_true rfl⟩) (wrW_V hP hK hD (wM_0 cy ad u1 X) rfl) rfl rfl hl.1 rfl (lv_room (Nat.le_of_ble_eq_true rfl)) dX3_digest_157 ⟨Nat.le_of_ble_eq_true rfl, Nat.le_of_ble_eq_true rfl⟩) hD hS hA (fun us22 H locs w23 hP hD hS => ?_)
          have a1_us22 : us22.1 = u.1 := by rw [w23]; exact a1
          have a2_us22 : us22.2.1 = u.2.1 := by rw [w23]; exact a2
          have ak_us22 : us22.2.2.2.1 = u.2.2.2.1 := by rw [w23]; exact ak
          have at_us22 : us22.2.2.2.2.1 = nI 0 := by rw [w23]; exact at0
          have ah_us22 : us22.2.2.2.2.2.2 = 31 * (hmH (u.1 1) j0 (dgA (u.1 1) (u.2.1 2))) + (ptF (u.1 1) ((cn (u.1 1)).2.2.1 9 j0) (nI 0)) := by rw [w23]; show 31 * u1.2.2.2.2.2.2 + _ = _; rw [ah]
          have as_us22 : svd (u.1 1) us22 := by rw [w23]; exact ⟨hsv.1, hsv.2.1, hsv.2.2⟩
          have hsv := as_us22
          refine lv_aload_n hx hb dX3_digest_160 rfl (lv_at hl 2 rfl) ?_
          refine lv_aload_n hx hb dX3_digest_161 rfl (lv_at hl 2 rfl) ?_
          refine lv_aload_n hx hb dX3_digest_162 rfl (lv_at hl 2 rfl) ?_
          refine va_get (D := dd) (ci := 5) (v := .ref (ad 9)) (C := RX3) (T := TX3) (N := 15) hx hb hts (fun _ h9 => List.mem_cons_of_mem _ (List.mem_append_left _ (List.mem_append_left _ (List.mem_append_right _ h9)))) hown hK hP 0 (wM_0 cy ad us22 X) rfl 11 (by decide) (hts (Cond.fieldLink RX3 36 "HeadGridModel" "heads" "[J") (List.mem_of_getElem? (i := 6) rfl)) (fun _ h9 => h9) rfl dX3_digest_163 ?_
          refine lv_iload_n hx hb dX3_digest_166 rfl (lv_at hl 0 rfl) ?_
          refine wa_lald hx hb hK hP (wM_9 cy ad us22 X) (t0 := 1) rfl (i := j0) (by omega) (by decide) dX3_digest_167 ?_
          refine lv_iconst (v := nI 1) hx hb dX3_digest_168 (by decide) ?_
          have hwh : lN (det 9 (AM (u.1 1))).toNat = us22.2.2.2.2.2.1 := by rw [hsv.1]; exact (ofI_nat (Int.le_of_lt hG.2.1.1)).symm
          refine vp_callSl (va_runV (As := [.long (us22.2.2.1 9 j0), .int (nI 1)]) (rest := [.ref (ad 0)]) ⟨hx, hb, hml, hown, hts⟩ (c_X3_partOf l dd cy ad X us22 (us22.2.2.1 9 j0) 1 (det 9 (AM (u.1 1))).toNat (by rw [sv_9 hsv (by omega)]; exact hG.2.2.1 _ (by omega)) hwh (by have := hG.2.1; omega) (by have := hG.2.1; omega) (by omega)) (cwV 2 hts gX3_digest_X3_partOf rfl rfl rfl hd_X3_partOf ⟨Nat.le_of_ble_eq_true rfl, Nat.le_of_ble_eq_true rfl⟩) (rdW_V hP hK (wM_0 cy ad us22 X) rfl) rfl rfl hl.1 rfl (lv_room (Nat.le_of_ble_eq_true rfl)) dX3_digest_169 ⟨Nat.le_of_ble_eq_true rfl, Nat.le_of_ble_eq_true rfl⟩).run (fun r24 hr24 => ?_)
          have hr24 : r24 = ptF (u.1 1) ((cn (u.1 1)).2.2.1 9 j0) (nI 1) := by rw [hr24, sv_9 hsv (by omega), pt1_eq]; rfl
          have hr24 := hr24.symm
          subst hr24
          refine wc_callv (va_runV (As := [.long (ptF (u.1 1) ((cn (u.1 1)).2.2.1 9 j0) (nI 1))]) (rest := []) ⟨hx, hb, hml, hown, hts⟩ (c_X3_mix l dd cy ad X us22 _ (ptF (u.1 1) ((cn (u.1 1)).2.2.1 9 j0) (nI 1))) (cwV 1 hts gX3_digest_X3_mix rfl rfl rfl hd_X3_mix ⟨Nat.le_of_ble_eq_true rfl, Nat.le_of_ble_eq_true rfl⟩) (wrW_V hP hK hD (wM_0 cy ad us22 X) rfl) rfl rfl hl.1 rfl (lv_room (Nat.le_of_ble_eq_true rfl)) dX3_digest_172 ⟨Nat.le_of_ble_eq_true rfl, Nat.le_of_ble_eq_true rfl⟩) hD hS hA (fun us25 H locs w26 hP hD hS => ?_)
          have a1_us25 : us25.1 = u.1 := by rw [w26]; exact a1_us22
          have a2_us25 : us25.2.1 = u.2.1 := by rw [w26]; exact a2_us22
          have ak_us25 : us25.2.2.2.1 = u.2.2.2.1 := by rw [w26]; exact ak_us22
          have at_us25 : us25.2.2.2.2.1 = nI 0 := by rw [w26]; exact at_us22
          have ah_us25 : us25.2.2.2.2.2.2 = 31 * (31 * (hmH (u.1 1) j0 (dgA (u.1 1) (u.2.1 2))) + (ptF (u.1 1) ((cn (u.1 1)).2.2.1 9 j0) (nI 0))) + (ptF (u.1 1) ((cn (u.1 1)).2.2.1 9 j0) (nI 1)) := by rw [w26]; show 31 * us22.2.2.2.2.2.2 + _ = _; rw [ah_us22]
          have as_us25 : svd (u.1 1) us25 := by rw [w26]; exact ⟨as_us22.1, as_us22.2.1, as_us22.2.2⟩
          have hsv := as_us25
          refine lv_iinc (v := (nI (j0 + 1))) (lv' := [(2, .int (nI (j0 + 1))), (1, .int (nI 1)), (0, .ref (ad 0))]) hx hb dX3_digest_175 hl (k := 0) rfl (nI_1 _) (by decide) rfl (fun ls hl => ?_)
          refine lv_goto (tgt := 135) hx hb dX3_digest_178 (by decide) ?_
          exact ihc (9 - (j0 + 1)) (j0 + 1, us25) _ _ ls (by omega) ⟨rfl, (by omega), a1_us25, a2_us25, ak_us25, at_us25, (ah_us25.trans rfl), as_us25, hP, hD, hS, lv_sub hl [0, 1, 2] rfl⟩
    · refine lv_aload_n hx hb dX3_digest_45 rfl (lv_at hl 1 rfl) ?_
      refine lv_aload_n hx hb dX3_digest_46 rfl (lv_at hl 1 rfl) ?_
      refine va_get (D := dd) (ci := 5) (v := .ref (ad 1)) (C := RX3) (T := TX3) (N := 15) hx hb hts (fun _ h9 => List.mem_cons_of_mem _ (List.mem_append_left _ (List.mem_append_left _ (List.mem_append_right _ h9)))) hown hK hP 0 (wM_0 cy ad u1 X) rfl 0 (by decide) (hts (Cond.fieldLink RX3 7 "HeadGridModel" "now" "[I") (List.mem_of_getElem? (i := 4) rfl)) (fun _ h9 => h9) rfl dX3_digest_47 ?_
      refine lv_bipush (v := nI 36) hx hb dX3_digest_50 (by decide) ?_
      refine lv_iload_n hx hb dX3_digest_52 rfl (lv_at hl 0 rfl) ?_
      refine wn_iadd hx hb dX3_digest_53 ?_
      refine wa_iald hx hb hK hP (wM_1 cy ad u1 X) (t0 := 0) rfl (i := 36 + j0) (by omega) (by decide) dX3_digest_54 ?_
      refine lv_i2l hx hb dX3_digest_55 rfl ?_
      refine wc_callv (va_runV (As := [.long ((u1.1 1 (36 + j0)).toInt64)]) (rest := []) ⟨hx, hb, hml, hown, hts⟩ (c_X3_mix l dd cy ad X u1 _ ((u1.1 1 (36 + j0)).toInt64)) (cwV 1 hts gX3_digest_X3_mix rfl rfl rfl hd_X3_mix ⟨Nat.le_of_ble_eq_true rfl, Nat.le_of_ble_eq_true rfl⟩) (wrW_V hP hK hD (wM_0 cy ad u1 X) rfl) rfl rfl hl.1 rfl (lv_room (Nat.le_of_ble_eq_true rfl)) dX3_digest_56 ⟨Nat.le_of_ble_eq_true rfl, Nat.le_of_ble_eq_true rfl⟩) hD hS hA (fun us27 H locs w28 hP hD hS => ?_)
      have a1_us27 : us27.1 = u.1 := by rw [w28]; exact a1
      have a2_us27 : us27.2.1 = u.2.1 := by rw [w28]; exact a2
      have ak_us27 : us27.2.2.2.1 = u.2.2.2.1 := by rw [w28]; exact ak
      have at_us27 : us27.2.2.2.2.1 = nI 0 := by rw [w28]; exact at0
      have ah_us27 : us27.2.2.2.2.2.2 = 31 * (hm5 (u.1 1) (u.2.1 2) j0 (hmI (fun k9 => (u.1 1 k9).toInt64) 36 2819)) + ((u.1 1 (36 + j0)).toInt64) := by rw [w28]; show 31 * u1.2.2.2.2.2.2 + _ = _; rw [ah, a1]
      refine lv_aload_n hx hb dX3_digest_59 rfl (lv_at hl 1 rfl) ?_
      refine lv_aload_n hx hb dX3_digest_60 rfl (lv_at hl 1 rfl) ?_
      refine va_get (D := dd) (ci := 5) (v := .ref (ad 1)) (C := RX3) (T := TX3) (N := 15) hx hb hts (fun _ h9 => List.mem_cons_of_mem _ (List.mem_append_left _ (List.mem_append_left _ (List.mem_append_right _ h9)))) hown hK hP 0 (wM_0 cy ad us27 X) rfl 0 (by decide) (hts (Cond.fieldLink RX3 7 "HeadGridModel" "now" "[I") (List.mem_of_getElem? (i := 4) rfl)) (fun _ h9 => h9) rfl dX3_digest_61 ?_
      refine lv_bipush (v := nI 45) hx hb dX3_digest_64 (by decide) ?_
      refine lv_iload_n hx hb dX3_digest_66 rfl (lv_at hl 0 rfl) ?_
      refine wn_iadd hx hb dX3_digest_67 ?_
      refine wa_iald hx hb hK hP (wM_1 cy ad us27 X) (t0 := 0) rfl (i := 45 + j0) (by omega) (by decide) dX3_digest_68 ?_
      refine lv_i2l hx hb dX3_digest_69 rfl ?_
      refine wc_callv (va_runV (As := [.long ((us27.1 1 (45 + j0)).toInt64)]) (rest := []) ⟨hx, hb, hml, hown, hts⟩ (c_X3_mix l dd cy ad X us27 _ ((us27.1 1 (45 + j0)).toInt64)) (cwV 1 hts gX3_digest_X3_mix rfl rfl rfl hd_X3_mix ⟨Nat.le_of_ble_eq_true rfl, Nat.le_of_ble_eq_true rfl⟩) (wrW_V hP hK hD (wM_0 cy ad us27 X) rfl) rfl rfl hl.1 rfl (lv_room (Nat.le_of_ble_eq_true rfl)) dX3_digest_70 ⟨Nat.le_of_ble_eq_true rfl, Nat.le_of_ble_eq_true rfl⟩) hD hS hA (fun us29 H locs w30 hP hD hS => ?_)
      have a1_us29 : us29.1 = u.1 := by rw [w30]; exact a1_us27
      have a2_us29 : us29.2.1 = u.2.1 := by rw [w30]; exact a2_us27
      have ak_us29 : us29.2.2.2.1 = u.2.2.2.1 := by rw [w30]; exact ak_us27
      have at_us29 : us29.2.2.2.2.1 = nI 0 := by rw [w30]; exact at_us27
      have ah_us29 : us29.2.2.2.2.2.2 = 31 * (31 * (hm5 (u.1 1) (u.2.1 2) j0 (hmI (fun k9 => (u.1 1 k9).toInt64) 36 2819)) + ((u.1 1 (36 + j0)).toInt64)) + ((u.1 1 (45 + j0)).toInt64) := by rw [w30]; show 31 * us27.2.2.2.2.2.2 + _ = _; rw [ah_us27, a1_us27]
      refine lv_aload_n hx hb dX3_digest_73 rfl (lv_at hl 1 rfl) ?_
      refine lv_aload_n hx hb dX3_digest_74 rfl (lv_at hl 1 rfl) ?_
      refine va_get (D := dd) (ci := 5) (v := .ref (ad 1)) (C := RX3) (T := TX3) (N := 15) hx hb hts (fun _ h9 => List.mem_cons_of_mem _ (List.mem_append_left _ (List.mem_append_left _ (List.mem_append_right _ h9)))) hown hK hP 0 (wM_0 cy ad us29 X) rfl 0 (by decide) (hts (Cond.fieldLink RX3 7 "HeadGridModel" "now" "[I") (List.mem_of_getElem? (i := 4) rfl)) (fun _ h9 => h9) rfl dX3_digest_75 ?_
      refine lv_bipush (v := nI 54) hx hb dX3_digest_78 (by decide) ?_
      refine lv_iload_n hx hb dX3_digest_80 rfl (lv_at hl 0 rfl) ?_
      refine wn_iadd hx hb dX3_digest_81 ?_
      refine wa_iald hx hb hK hP (wM_1 cy ad us29 X) (t0 := 0) rfl (i := 54 + j0) (by omega) (by decide) dX3_digest_82 ?_
      refine lv_i2l hx hb dX3_digest_83 rfl ?_
      refine wc_callv (va_runV (As := [.long ((us29.1 1 (54 + j0)).toInt64)]) (rest := []) ⟨hx, hb, hml, hown, hts⟩ (c_X3_mix l dd cy ad X us29 _ ((us29.1 1 (54 + j0)).toInt64)) (cwV 1 hts gX3_digest_X3_mix rfl rfl rfl hd_X3_mix ⟨Nat.le_of_ble_eq_true rfl, Nat.le_of_ble_eq_true rfl⟩) (wrW_V hP hK hD (wM_0 cy ad us29 X) rfl) rfl rfl hl.1 rfl (lv_room (Nat.le_of_ble_eq_true rfl)) dX3_digest_84 ⟨Nat.le_of_ble_eq_true rfl, Nat.le_of_ble_eq_true rfl⟩) hD hS hA (fun us31 H locs w32 hP hD hS => ?_)
      have a1_us31 : us31.1 = u.1 := by rw [w32]; exact a1_us29
      have a2_us31 : us31.2.1 = u.2.1 := by rw [w32]; exact a2_us29
      have ak_us31 : us31.2.2.2.1 = u.2.2.2.1 := by rw [w32]; exact ak_us29
      have at_us31 : us31.2.2.2.2.1 = nI 0 := by rw [w32]; exact at_us29
      have ah_us31 : us31.2.2.2.2.2.2 = 31 * (31 * (31 * (hm5 (u.1 1) (u.2.1 2) j0 (hmI (fun k9 => (u.1 1 k9).toInt64) 36 2819)) + ((u.1 1 (36 + j0)).toInt64)) + ((u.1 1 (45 + j0)).toInt64)) + ((u.1 1 (54 + j0)).toInt64) := by rw [w32]; show 31 * us29.2.2.2.2.2.2 + _ = _; rw [ah_us29, a1_us29]
      refine lv_aload_n hx hb dX3_digest_87 rfl (lv_at hl 1 rfl) ?_
      refine lv_aload_n hx hb dX3_digest_88 rfl (lv_at hl 1 rfl) ?_
      refine va_get (D := dd) (ci := 5) (v := .ref (ad 1)) (C := RX3) (T := TX3) (N := 15) hx hb hts (fun _ h9 => List.mem_cons_of_mem _ (List.mem_append_left _ (List.mem_append_left _ (List.mem_append_right _ h9)))) hown hK hP 0 (wM_0 cy ad us31 X) rfl 0 (by decide) (hts (Cond.fieldLink RX3 7 "HeadGridModel" "now" "[I") (List.mem_of_getElem? (i := 4) rfl)) (fun _ h9 => h9) rfl dX3_digest_89 ?_
      refine lv_bipush (v := nI 63) hx hb dX3_digest_92 (by decide) ?_
      refine lv_iload_n hx hb dX3_digest_94 rfl (lv_at hl 0 rfl) ?_
      refine wn_iadd hx hb dX3_digest_95 ?_
      refine wa_iald hx hb hK hP (wM_1 cy ad us31 X) (t0 := 0) rfl (i := 63 + j0) (by omega) (by decide) dX3_digest_96 ?_
      refine lv_i2l hx hb dX3_digest_97 rfl ?_
      refine wc_callv (va_runV (As := [.long ((us31.1 1 (63 + j0)).toInt64)]) (rest := []) ⟨hx, hb, hml, hown, hts⟩ (c_X3_mix l dd cy ad X us31 _ ((us31.1 1 (63 + j0)).toInt64)) (cwV 1 hts gX3_digest_X3_mix rfl rfl rfl hd_X3_mix ⟨Nat.le_of_ble_eq_true rfl, Nat.le_of_ble_eq_true rfl⟩) (wrW_V hP hK hD (wM_0 cy ad us31 X) rfl) rfl rfl hl.1 rfl (lv_room (Nat.le_of_ble_eq_true rfl)) dX3_digest_98 ⟨Nat.le_of_ble_eq_true rfl, Nat.le_of_ble_eq_true rfl⟩) hD hS hA (fun us33 H locs w34 hP hD hS => ?_)
      have a1_us33 : us33.1 = u.1 := by rw [w34]; exact a1_us31
      have a2_us33 : us33.2.1 = u.2.1 := by rw [w34]; exact a2_us31
      have ak_us33 : us33.2.2.2.1 = u.2.2.2.1 := by rw [w34]; exact ak_us31
      have at_us33 : us33.2.2.2.2.1 = nI 0 := by rw [w34]; exact at_us31
      have ah_us33 : us33.2.2.2.2.2.2 = 31 * (31 * (31 * (31 * (hm5 (u.1 1) (u.2.1 2) j0 (hmI (fun k9 => (u.1 1 k9).toInt64) 36 2819)) + ((u.1 1 (36 + j0)).toInt64)) + ((u.1 1 (45 + j0)).toInt64)) + ((u.1 1 (54 + j0)).toInt64)) + ((u.1 1 (63 + j0)).toInt64) := by rw [w34]; show 31 * us31.2.2.2.2.2.2 + _ = _; rw [ah_us31, a1_us31]
      refine lv_aload_n hx hb dX3_digest_101 rfl (lv_at hl 1 rfl) ?_
      refine lv_aload_n hx hb dX3_digest_102 rfl (lv_at hl 1 rfl) ?_
      refine va_get (D := dd) (ci := 5) (v := .ref (ad 2)) (C := RX3) (T := TX3) (N := 15) hx hb hts (fun _ h9 => List.mem_cons_of_mem _ (List.mem_append_left _ (List.mem_append_left _ (List.mem_append_right _ h9)))) hown hK hP 0 (wM_0 cy ad us33 X) rfl 1 (by decide) (hts (Cond.fieldLink RX3 13 "HeadGridModel" "relaxed" "[D") (List.mem_of_getElem? (i := 5) rfl)) (fun _ h9 => h9) rfl dX3_digest_103 ?_
      refine lv_iload_n hx hb dX3_digest_106 rfl (lv_at hl 0 rfl) ?_
      refine wa_dald hx hb hK hP (wM_2 cy ad us33 X) (t0 := 2) rfl (i := j0) (by omega) (by decide) dX3_digest_107 ?_
      refine vp_callSl (va_runS (As := [.double (us33.2.1 2 j0)]) (rest := [.ref (ad 0)]) ⟨hx, hb, hml, hown, hts⟩ (c_X3_bitsOf l (us33.2.1 2 j0) (by rw [a2_us33]; exact (hB j0 (by omega)).1)) (va_cwS 1 hts gX3_digest_X3_bitsOf rfl rfl rfl hd_X3_bitsOf ⟨Nat.le_of_ble_eq_true rfl, Nat.le_of_ble_eq_true rfl⟩) ⟨fun a U g mk q => q, fun U hU hW => ⟨rfl, trivial⟩⟩ rfl rfl hl.1 rfl (lv_room (Nat.le_of_ble_eq_true rfl)) dX3_digest_108 ⟨Nat.le_of_ble_eq_true rfl, Nat.le_of_ble_eq_true rfl⟩).run (fun r35 hr35 => ?_)
      have hr35 : r35 = (bsD (us33.2.1 2 j0)) := hr35
      subst hr35
      refine wc_callv (va_runV (As := [.long (bsD (us33.2.1 2 j0))]) (rest := []) ⟨hx, hb, hml, hown, hts⟩ (c_X3_mix l dd cy ad X us33 _ (bsD (us33.2.1 2 j0))) (cwV 1 hts gX3_digest_X3_mix rfl rfl rfl hd_X3_mix ⟨Nat.le_of_ble_eq_true rfl, Nat.le_of_ble_eq_true rfl⟩) (wrW_V hP hK hD (wM_0 cy ad us33 X) rfl) rfl rfl hl.1 rfl (lv_room (Nat.le_of_ble_eq_true rfl)) dX3_digest_111 ⟨Nat.le_of_ble_eq_true rfl, Nat.le_of_ble_eq_true rfl⟩) hD hS hA (fun us36 H locs w37 hP hD hS => ?_)
      have a1_us36 : us36.1 = u.1 := by rw [w37]; exact a1_us33
      have a2_us36 : us36.2.1 = u.2.1 := by rw [w37]; exact a2_us33
      have ak_us36 : us36.2.2.2.1 = u.2.2.2.1 := by rw [w37]; exact ak_us33
      have at_us36 : us36.2.2.2.2.1 = nI 0 := by rw [w37]; exact at_us33
      have ah_us36 : us36.2.2.2.2.2.2 = 31 * (31 * (31 * (31 * (31 * (hm5 (u.1 1) (u.2.1 2) j0 (hmI (fun k9 => (u.1 1 k9).toInt64) 36 2819)) + ((u.1 1 (36 + j0)).toInt64)) + ((u.1 1 (45 + j0)).toInt64)) + ((u.1 1 (54 + j0)).toInt64)) + ((u.1 1 (63 + j0)).toInt64)) + (bsD (u.2.1 2 j0)) := by rw [w37]; show 31 * us33.2.2.2.2.2.2 + _ = _; rw [ah_us33, a2_us33]
      refine lv_iinc (v := (nI (j0 + 1))) (lv' := [(1, .int (nI (j0 + 1))), (0, .ref (ad 0))]) hx hb dX3_digest_114 hl (k := 0) rfl (nI_1 _) (by decide) rfl (fun ls hl => ?_)
      refine lv_goto (tgt := 39) hx hb dX3_digest_117 (by decide) ?_
      exact ihb (9 - (j0 + 1)) (j0 + 1, us36) _ _ ls (by omega) ⟨rfl, (by omega), a1_us36, a2_us36, ak_us36, at_us36, (ah_us36.trans rfl), hP, hD, hS, lv_sub hl [0, 1] rfl⟩
  · refine lv_aload_n hx hb dX3_digest_20 rfl (lv_at hl 1 rfl) ?_
    refine lv_aload_n hx hb dX3_digest_21 rfl (lv_at hl 1 rfl) ?_
    refine va_get (D := dd) (ci := 5) (v := .ref (ad 1)) (C := RX3) (T := TX3) (N := 15) hx hb hts (fun _ h9 => List.mem_cons_of_mem _ (List.mem_append_left _ (List.mem_append_left _ (List.mem_append_right _ h9)))) hown hK hP 0 (wM_0 cy ad u1 X) rfl 0 (by decide) (hts (Cond.fieldLink RX3 7 "HeadGridModel" "now" "[I") (List.mem_of_getElem? (i := 4) rfl)) (fun _ h9 => h9) rfl dX3_digest_22 ?_
    refine lv_iload_n hx hb dX3_digest_25 rfl (lv_at hl 0 rfl) ?_
    refine wa_iald hx hb hK hP (wM_1 cy ad u1 X) (t0 := 0) rfl (i := j0) (by omega) (by decide) dX3_digest_26 ?_
    refine lv_i2l hx hb dX3_digest_27 rfl ?_
    refine wc_callv (va_runV (As := [.long ((u1.1 1 j0).toInt64)]) (rest := []) ⟨hx, hb, hml, hown, hts⟩ (c_X3_mix l dd cy ad X u1 _ ((u1.1 1 j0).toInt64)) (cwV 1 hts gX3_digest_X3_mix rfl rfl rfl hd_X3_mix ⟨Nat.le_of_ble_eq_true rfl, Nat.le_of_ble_eq_true rfl⟩) (wrW_V hP hK hD (wM_0 cy ad u1 X) rfl) rfl rfl hl.1 rfl (lv_room (Nat.le_of_ble_eq_true rfl)) dX3_digest_28 ⟨Nat.le_of_ble_eq_true rfl, Nat.le_of_ble_eq_true rfl⟩) hD hS hA (fun us38 H locs w39 hP hD hS => ?_)
    have a1_us38 : us38.1 = u.1 := by rw [w39]; exact a1
    have a2_us38 : us38.2.1 = u.2.1 := by rw [w39]; exact a2
    have ak_us38 : us38.2.2.2.1 = u.2.2.2.1 := by rw [w39]; exact ak
    have at_us38 : us38.2.2.2.2.1 = nI 0 := by rw [w39]; exact at0
    have ah_us38 : us38.2.2.2.2.2.2 = 31 * (hmI (fun k9 => (u.1 1 k9).toInt64) j0 2819) + ((u.1 1 j0).toInt64) := by rw [w39]; show 31 * u1.2.2.2.2.2.2 + _ = _; rw [ah, a1]
    refine lv_iinc (v := (nI (j0 + 1))) (lv' := [(1, .int (nI (j0 + 1))), (0, .ref (ad 0))]) hx hb dX3_digest_31 hl (k := 0) rfl (nI_1 _) (by decide) rfl (fun ls hl => ?_)
    refine lv_goto (tgt := 14) hx hb dX3_digest_34 (by decide) ?_
    exact iha (36 - (j0 + 1)) (j0 + 1, us38) _ _ ls (by omega) ⟨rfl, (by omega), a1_us38, a2_us38, ak_us38, at_us38, (ah_us38.trans rfl), hP, hD, hS, lv_sub hl [0, 1] rfl⟩

/-! the class: its questions -/
theorem hmI_add (f : Nat → Int64) (a : Nat) : ∀ (b : Nat) (h : Int64), hmI (fun k => f (a + k)) b (hmI f a h) = hmI f (a + b) h
  | 0, _ => rfl
  | b + 1, h => by rw [hmI, hmI_add f a b h, show a + (b + 1) = (a + b) + 1 by omega, hmI]
theorem hmI_congr {f g : Nat → Int64} : ∀ {n : Nat} {h : Int64}, (∀ k, k < n → f k = g k) → hmI f n h = hmI g n h
  | 0, _, _ => rfl
  | n + 1, h, q => by rw [hmI, hmI, hmI_congr (fun k hk => q k (by omega)), q n (by omega)]
theorem hm36 (u : CS) : hmI (fun k => (u.1 19 k).toInt64) 12 (hmI (fun k => (u.1 18 k).toInt64) 24 2819) = hmI (fun k => (nw u k).toInt64) 36 2819 := by
  rw [← hmI_add (fun k => (nw u k).toInt64) 24 12 2819]
  rw [hmI_congr (f := fun k => (u.1 18 k).toInt64) (g := fun k => (nw u k).toInt64) (fun k hk => by rw [nw_0 u hk])]
  exact hmI_congr (fun k hk => by rw [nw_1 u hk])
def bwN (hd : Nat → Int64) (lv : Nat → Int32) (w : Int64) : Nat → Nat
  | 0 => 0
  | n + 1 => bwN hd lv w n ||| (if hd n < (lv n).toInt64 * w then 2 ^ n else 0)
theorem bwN_eq {hd : Nat → Int64} {lv : Nat → Int32} {w : Int64} : ∀ {n : Nat}, n ≤ 9 → bwF hd lv w n = nI (bwN hd lv w n) ∧ bwN hd lv w n < 512
  | 0, _ => ⟨rfl, by rw [bwN]; decide⟩
  | n + 1, h => by
    obtain ⟨h1, h2⟩ := bwN_eq (hd := hd) (lv := lv) (w := w) (n := n) (by omega)
    rw [bwF, bwN, h1]
    by_cases e : hd n < (lv n).toInt64 * w
    · rw [if_pos e, if_pos e]; exact or9 _ h2 n (by omega)
    · rw [if_neg e, if_neg e, i32_or0, Nat.or_zero]; exact ⟨rfl, h2⟩
theorem bwN_0 {hd : Nat → Int64} {lv : Nat → Int32} {w : Int64} : ∀ {n : Nat}, bwN hd lv w n = 0 ↔ ∀ k, k < n → ¬ hd k < (lv k).toInt64 * w
  | 0 => ⟨fun _ k hk => absurd hk (Nat.not_lt_zero k), fun _ => rfl⟩
  | n + 1 => by
    rw [bwN, Nat.or_eq_zero_iff, bwN_0]
    constructor
    · intro h k hk
      by_cases e : k = n
      · subst e
        intro q
        rw [if_pos q] at h
        exact absurd h.2 (Nat.ne_of_gt (Nat.two_pow_pos k))
      · exact h.1 k (by omega)
    · intro h
      exact ⟨fun k hk => h k (by omega), if_neg (h n (by omega))⟩
theorem bw_is {now : Nat → Int32} (hr : rgM now) (ht : nR (gNow now) 9 = 511) : bwF ((cn now).2.2.1 9) (fun k => now (63 + k)) (cn now).2.2.2.2.2.1 9 = 0 ↔ isF (abU (cn now) 0) 9 = true := by
  have e := bwN_eq (hd := (cn now).2.2.1 9) (lv := fun k => now (63 + k)) (w := (cn now).2.2.2.2.2.1) (Nat.le_refl 9)
  rw [e.1, show (0 : Int32) = nI 0 from rfl, nI_eq (by omega) (by decide), bwN_0]
  have key : ∀ i, i < 9 → (0 ≤ abU (cn now) 0 i ↔ ¬ (cn now).2.2.1 9 i < (now (63 + i)).toInt64 * (cn now).2.2.2.2.2.1) := by
    intro i hi
    have ha : ∀ j, abF ((cn now).2.2.1 9) ((cn now).2.2.1 8) (cn now).2.2.2.2.2.1 now 0 i j = (cn now).2.2.1 9 i - (now (63 + i)).toInt64 * (cn now).2.2.2.2.2.1 := by
      intro j
      induction j with
      | zero => rfl
      | succ j ih => rw [abF, if_neg (by rw [Nat.zero_testBit]; decide)]; exact ih
    rw [show abU (cn now) 0 i = _ from ha 9]
    obtain ⟨z, e1, a1, a2⟩ := bd_hd9 hr ht hi
    obtain ⟨y, e2, b1, b2⟩ := bd_mul (bd_1000 hr (show 24 ≤ 63 + i by omega) (by omega)) (bd_det hr ht)
    rw [e1, e2, ← Int64.ofInt_sub, i64_le, i64_lt, i64_z0, ofI_T (by omega) (by omega), ofI_T (by omega) (by omega), ofI_T (by omega) (by omega)]
    omega
  constructor
  · intro h
    cases q : isF (abU (cn now) 0) 9
    · obtain ⟨i, hi, z⟩ := isF_ex q
      exact absurd ((key i hi).mpr (h i hi)) z
    · rfl
  · intro h i hi
    exact (key i hi).mp (isF_lt hi h)
theorem hd_X2_determinant : yX2_determinant.cls = RX2 ∧ yX2_determinant.cls ≠ "java/lang/invoke/MethodHandle" ∧ yX2_determinant.cls ≠ "java/lang/invoke/VarHandle" ∧ (parseMethodDescriptor yX2_determinant.desc).map (fun d => d.parameters.length) = some 0 := by decide +kernel
set_option maxHeartbeats 4000000 in
set_option maxRecDepth 100000 in
/-- determinant() -/
theorem c_X2_determinant (l : Launch) (dd : va_G) (cy : Nat → ClassId) (ad : Nat → Nat) (X : va_W) (tt : Nat × Nat) (u : CS) (sz : Nat) (hrg : rgM (nw u)) (hsI : slI u) : Met l yX2_determinant wsX2_determinant ({ frames := 4, cells := 0, slots := 0, locals := 97 }) (va_Pc [.ref (ad 0)] (wrC dd cy tt (wC cy ad u ++ X) sz)) (va_Ql (fun r u9 => r = Int64.ofInt (det 9 (AM (nw u))) ∧ frP u u9) (wB dd cy (fun u9 : CS => wC cy ad u9 ++ X) (va_A (wC cy ad u ++ X) sz)) (va_A (wC cy ad u ++ X) sz)) 0 0 (va_A (wC cy ad u ++ X) sz) := by
  refine Met.ofW (cc := cX2_determinant) (maxL := 1) (ret := (some .long)) (by decide) rfl ?_
  intro p e s m args below meth c s₁ B hml hv
  obtain ⟨rfl, hsz, hP, hK, hD0, hSt⟩ := hv
  have hx := B.exec
  have hb := B.bytes
  have hr := B.returns
  have hts := atoms_spec (ws := wsX2_determinant) B.pre
  have hown : s.vm.findClass RX2 = some m.cls := findClass_of_methodNamed B.named
  have hlocks := B.notSynchronized
  subst hsz
  have hD := hD0.self (sz := s.heap.size)
  generalize hAe : va_A (wC cy ad u ++ X) s.heap.size = A at hD hSt ⊢
  have hA : ∀ q : Nat, s.heap.size ≤ q → A q := fun q h => by rw [← hAe]; exact Or.inr h
  have hS : va_S A s.heap s.heap [] := va_S.rf
  obtain ⟨b0, hb0, h_solved, hsv⟩ := id hsI
  have hl := lv_entry ([.ref (ad 0)]) (n := 1) (Nat.le_of_ble_eq_true rfl)
  rw [lg_entry_eq]
  generalize (lg_sl ([.ref (ad 0)]) ++ List.replicate (1 - (lg_sl ([.ref (ad 0)])).length) Slot.unset).toArray = ls at hl ⊢
  have hl : lv_has ls 1 [(0, .ref (ad 0))] := hl
  refine lv_aload_n hx hb dX2_determinant_0 rfl (lv_at hl 0 rfl) ?_
  refine wc_calll (va_runV (As := []) (rest := []) ⟨hx, hb, hml, hown, hts⟩ (c_X2_commonDenominator l dd cy ad X tt u _ hrg b0 hb0 h_solved hsv) (cwV 0 hts gX2_determinant_X2_commonDenominator rfl rfl rfl hd_X2_commonDenominator ⟨Nat.le_of_ble_eq_true rfl, Nat.le_of_ble_eq_true rfl⟩) (wrC_V hP hK hD hSt hS hA (wC_0 cy ad u X) rfl) rfl rfl hl.1 rfl (lv_room (Nat.le_of_ble_eq_true rfl)) dX2_determinant_1 ⟨Nat.le_of_ble_eq_true rfl, Nat.le_of_ble_eq_true rfl⟩) hD hS hA (fun r1 us2 H locs w3 hP hD hS => ?_)
  obtain ⟨cE9, cS9, c1, c2, c3, c4, c5⟩ := w3
  have cP : frP u us2 := ⟨c2, c3, c4, c5, 1, by decide, c1.symm, fun _ => by rw [nw_congr c2]; exact cS9⟩
  have er1 : r1 = Int64.ofInt (det 9 (AM (nw u))) := cE9
  exact W.lret (v := r1) hx hb hr (fun t ht hW => ⟨⟨r1, us2, rfl, ⟨cE9, cP⟩, by rw [ht]; exact hP, va_K.moved hW.alike hK, hD⟩, hS.F ht⟩) hS.2.2 dX2_determinant_4
theorem hd_X2_isLoose : yX2_isLoose.cls = RX2 ∧ yX2_isLoose.cls ≠ "java/lang/invoke/MethodHandle" ∧ yX2_isLoose.cls ≠ "java/lang/invoke/VarHandle" ∧ (parseMethodDescriptor yX2_isLoose.desc).map (fun d => d.parameters.length) = some 0 := by decide +kernel
set_option maxHeartbeats 4000000 in
set_option maxRecDepth 100000 in
/-- isLoose() -/
theorem c_X2_isLoose (l : Launch) (dd : va_G) (cy : Nat → ClassId) (ad : Nat → Nat) (X : va_W) (tt : Nat × Nat) (u : CS) (sz : Nat) (hrg : rgM (nw u)) (hsI : slI u) : Met l yX2_isLoose wsX2_isLoose ({ frames := 4, cells := 0, slots := 0, locals := 97 }) (va_Pc [.ref (ad 0)] (wrC dd cy tt (wC cy ad u ++ X) sz)) (va_Qi (fun r u9 => r = bI (lsN (nw u)) ∧ frP u u9) (wB dd cy (fun u9 : CS => wC cy ad u9 ++ X) (va_A (wC cy ad u ++ X) sz)) (va_A (wC cy ad u ++ X) sz)) 0 0 (va_A (wC cy ad u ++ X) sz) := by
  refine Met.ofW (cc := cX2_isLoose) (maxL := 1) (ret := (some .boolean)) (by decide) rfl ?_
  intro p e s m args below meth c s₁ B hml hv
  obtain ⟨rfl, hsz, hP, hK, hD0, hSt⟩ := hv
  have hx := B.exec
  have hb := B.bytes
  have hr := B.returns
  have hts := atoms_spec (ws := wsX2_isLoose) B.pre
  have hown : s.vm.findClass RX2 = some m.cls := findClass_of_methodNamed B.named
  have hlocks := B.notSynchronized
  subst hsz
  have hD := hD0.self (sz := s.heap.size)
  generalize hAe : va_A (wC cy ad u ++ X) s.heap.size = A at hD hSt ⊢
  have hA : ∀ q : Nat, s.heap.size ≤ q → A q := fun q h => by rw [← hAe]; exact Or.inr h
  have hS : va_S A s.heap s.heap [] := va_S.rf
  obtain ⟨b0, hb0, h_solved, hsv⟩ := id hsI
  have hl := lv_entry ([.ref (ad 0)]) (n := 1) (Nat.le_of_ble_eq_true rfl)
  rw [lg_entry_eq]
  generalize (lg_sl ([.ref (ad 0)]) ++ List.replicate (1 - (lg_sl ([.ref (ad 0)])).length) Slot.unset).toArray = ls at hl ⊢
  have hl : lv_has ls 1 [(0, .ref (ad 0))] := hl
  refine lv_aload_n hx hb dX2_isLoose_0 rfl (lv_at hl 0 rfl) ?_
  refine wc_calll (va_runV (As := []) (rest := []) ⟨hx, hb, hml, hown, hts⟩ (c_X2_commonDenominator l dd cy ad X tt u _ hrg b0 hb0 h_solved hsv) (cwV 0 hts gX2_isLoose_X2_commonDenominator rfl rfl rfl hd_X2_commonDenominator ⟨Nat.le_of_ble_eq_true rfl, Nat.le_of_ble_eq_true rfl⟩) (wrC_V hP hK hD hSt hS hA (wC_0 cy ad u X) rfl) rfl rfl hl.1 rfl (lv_room (Nat.le_of_ble_eq_true rfl)) dX2_isLoose_1 ⟨Nat.le_of_ble_eq_true rfl, Nat.le_of_ble_eq_true rfl⟩) hD hS hA (fun r1 us2 H locs w3 hP hD hS => ?_)
  obtain ⟨cE9, cS9, c1, c2, c3, c4, c5⟩ := w3
  have cP : frP u us2 := ⟨c2, c3, c4, c5, 1, by decide, c1.symm, fun _ => by rw [nw_congr c2]; exact cS9⟩
  have er1 : r1 = Int64.ofInt (det 9 (AM (nw u))) := cE9
  refine lv_lconst (v := 0) hx hb dX2_isLoose_4 rfl ?_
  refine wl_ne (tgt := 13) hx hb dX2_isLoose_5 dX2_isLoose_6 (by decide) (fun cZ => ?_) (fun cZ => ?_)
  · refine lv_iconst (v := nI 0) hx hb dX2_isLoose_13 (by decide) ?_
    exact W.zret (v := (nI 0)) hx hb hr rfl (fun t ht hW => ⟨⟨(nI 0), us2, rfl, ⟨by rw [lsN_t (Classical.byContradiction (fun q9 => cZ (by rw [cE9]; exact (den_0 hrg).mpr q9)))]; rfl, cP⟩, by rw [ht]; exact hP, va_K.moved hW.alike hK, hD⟩, hS.F ht⟩) hS.2.2 dX2_isLoose_14
  · refine lv_iconst (v := nI 1) hx hb dX2_isLoose_9 (by decide) ?_
    refine lv_goto (tgt := 14) hx hb dX2_isLoose_10 (by decide) ?_
    exact W.zret (v := (nI 1)) hx hb hr rfl (fun t ht hW => ⟨⟨(nI 1), us2, rfl, ⟨by rw [lsN_f ((den_0 hrg).mp (by rw [← cE9]; exact cZ))]; rfl, cP⟩, by rw [ht]; exact hP, va_K.moved hW.alike hK, hD⟩, hS.F ht⟩) hS.2.2 dX2_isLoose_14
theorem hd_X2_digest : yX2_digest.cls = RX2 ∧ yX2_digest.cls ≠ "java/lang/invoke/MethodHandle" ∧ yX2_digest.cls ≠ "java/lang/invoke/VarHandle" ∧ (parseMethodDescriptor yX2_digest.desc).map (fun d => d.parameters.length) = some 0 := by decide +kernel
set_option maxHeartbeats 4000000 in
set_option maxRecDepth 100000 in
/-- digest() -/
theorem c_X2_digest (l : Launch) (dd : va_G) (cy : Nat → ClassId) (ad : Nat → Nat) (X : va_W) (tt : Nat × Nat) (u : CS) (sz : Nat) (hrg : rgM (nw u)) (hsI : slI u) (bb : Nat) (hB : ∀ j, j < 9 → dB bb (u.2.1 24 j)) : Met l yX2_digest wsX2_digest ({ frames := 4, cells := 0, slots := 0, locals := 113 }) (va_Pc [.ref (ad 0)] (wrC dd cy tt (wC cy ad u ++ X) sz)) (va_Ql (fun r u9 => r = dgF (nw u) (u.2.1 24) (lsN (nw u)) u.2.2.2.1 ∧ frP u u9) (wB dd cy (fun u9 : CS => wC cy ad u9 ++ X) (va_A (wC cy ad u ++ X) sz)) (va_A (wC cy ad u ++ X) sz)) 0 0 (va_A (wC cy ad u ++ X) sz) := by
  refine Met.ofW (cc := cX2_digest) (maxL := 6) (ret := (some .long)) (by decide) rfl ?_
  intro p e s m args below meth c s₁ B hml hv
  obtain ⟨rfl, hsz, hP, hK, hD0, hSt⟩ := hv
  have hx := B.exec
  have hb := B.bytes
  have hr := B.returns
  have hts := atoms_spec (ws := wsX2_digest) B.pre
  have hown : s.vm.findClass RX2 = some m.cls := findClass_of_methodNamed B.named
  have hlocks := B.notSynchronized
  subst hsz
  have hD := hD0.self (sz := s.heap.size)
  generalize hAe : va_A (wC cy ad u ++ X) s.heap.size = A at hD hSt ⊢
  have hA : ∀ q : Nat, s.heap.size ≤ q → A q := fun q h => by rw [← hAe]; exact Or.inr h
  have hS : va_S A s.heap s.heap [] := va_S.rf
  obtain ⟨b0, hb0, h_solved, hsv⟩ := id hsI
  have hl := lv_entry ([.ref (ad 0)]) (n := 6) (Nat.le_of_ble_eq_true rfl)
  rw [lg_entry_eq]
  generalize (lg_sl ([.ref (ad 0)]) ++ List.replicate (6 - (lg_sl ([.ref (ad 0)])).length) Slot.unset).toArray = ls at hl ⊢
  have hl : lv_has ls 6 [(0, .ref (ad 0))] := hl
  refine lv_aload_n hx hb dX2_digest_0 rfl (lv_at hl 0 rfl) ?_
  refine wc_calll (va_runV (As := []) (rest := []) ⟨hx, hb, hml, hown, hts⟩ (c_X2_commonDenominator l dd cy ad X tt u _ hrg b0 hb0 h_solved hsv) (cwV 0 hts gX2_digest_X2_commonDenominator rfl rfl rfl hd_X2_commonDenominator ⟨Nat.le_of_ble_eq_true rfl, Nat.le_of_ble_eq_true rfl⟩) (wrC_V hP hK hD hSt hS hA (wC_0 cy ad u X) rfl) rfl rfl hl.1 rfl (lv_room (Nat.le_of_ble_eq_true rfl)) dX2_digest_1 ⟨Nat.le_of_ble_eq_true rfl, Nat.le_of_ble_eq_true rfl⟩) hD hS hA (fun r1 us2 H locs w3 hP hD hS => ?_)
  obtain ⟨cE9, cS9, c1, c2, c3, c4, c5⟩ := w3
  have cP : frP u us2 := ⟨c2, c3, c4, c5, 1, by decide, c1.symm, fun _ => by rw [nw_congr c2]; exact cS9⟩
  have er1 : r1 = Int64.ofInt (det 9 (AM (nw u))) := cE9
  refine lv_lstore_n (lv' := [(1, .long r1), (0, .ref (ad 0))]) hx hb dX2_digest_4 rfl hl (by decide) rfl (fun ls hl => ?_)
  refine lv_ldc2 hx hb hown (hts _ (List.mem_of_getElem? (i := 1) rfl)) dX2_digest_5 ?_
  refine lv_aload_n hx hb dX2_digest_8 rfl (lv_at hl 1 rfl) ?_
  refine va_get (D := dd) (ci := 4) (v := .ref (ad 17)) (C := RX2) (T := TX2) (N := 7) hx hb hts (fun _ h9 => List.mem_cons_of_mem _ (List.mem_append_left _ (List.mem_append_left _ (List.mem_append_left _ (List.mem_append_left _ (List.mem_append_right _ h9)))))) hown hK hP (0) (wC_0 cy ad us2 X) rfl 0 (by decide) (hts (Cond.fieldLink RX2 10 "HeadGrid" "now" "LHeadGrid$State;") (List.mem_of_getElem? (i := 2) rfl)) (fun _ h9 => h9) rfl dX2_digest_9 ?_
  refine va_get (D := dd) (ci := 3) (v := .ref (ad 18)) (C := RX1) (T := TX1) (N := 7) hx hb hts (fun _ h9 => List.mem_cons_of_mem _ (List.mem_append_left _ (List.mem_append_left _ (List.mem_append_left _ (List.mem_append_right _ h9))))) hown hK hP (17) (wC_now cy ad us2 X) rfl 0 (by decide) (hts (Cond.fieldLink RX2 53 "HeadGrid$State" "conductances" "[I") (List.mem_of_getElem? (i := 3) rfl)) (fun _ h9 => h9) rfl dX2_digest_12 ?_
  refine vp_callSl (va_runS (As := [.long 2819, .ref (ad 18)]) (rest := []) ⟨hx, hb, hml, hown, hts⟩ (c_X2_mixAll l dd cy _ 18 _ 24 _ (wC_n0 cy ad us2 X) (by decide) 2819) (va_cwS 2 hts gX2_digest_X2_mixAll rfl rfl rfl hd_X2_mixAll ⟨Nat.le_of_ble_eq_true rfl, Nat.le_of_ble_eq_true rfl⟩) (rdW_S hP hK) rfl rfl hl.1 rfl (lv_room (Nat.le_of_ble_eq_true rfl)) dX2_digest_15 ⟨Nat.le_of_ble_eq_true rfl, Nat.le_of_ble_eq_true rfl⟩).run (fun r4 hr4 => ?_)
  refine lv_lstore_n (lv' := [(3, .long r4), (1, .long r1), (0, .ref (ad 0))]) hx hb dX2_digest_18 rfl hl (by decide) rfl (fun ls hl => ?_)
  have hr36 := hr4
  refine lv_lload_n hx hb dX2_digest_19 rfl (lv_at hl 0 rfl) ?_
  refine lv_aload_n hx hb dX2_digest_20 rfl (lv_at hl 2 rfl) ?_
  refine va_get (D := dd) (ci := 4) (v := .ref (ad 17)) (C := RX2) (T := TX2) (N := 7) hx hb hts (fun _ h9 => List.mem_cons_of_mem _ (List.mem_append_left _ (List.mem_append_left _ (List.mem_append_left _ (List.mem_append_left _ (List.mem_append_right _ h9)))))) hown hK hP (0) (wC_0 cy ad us2 X) rfl 0 (by decide) (hts (Cond.fieldLink RX2 10 "HeadGrid" "now" "LHeadGrid$State;") (List.mem_of_getElem? (i := 2) rfl)) (fun _ h9 => h9) rfl dX2_digest_21 ?_
  refine va_get (D := dd) (ci := 3) (v := .ref (ad 19)) (C := RX1) (T := TX1) (N := 7) hx hb hts (fun _ h9 => List.mem_cons_of_mem _ (List.mem_append_left _ (List.mem_append_left _ (List.mem_append_left _ (List.mem_append_right _ h9))))) hown hK hP (17) (wC_now cy ad us2 X) rfl 1 (by decide) (hts (Cond.fieldLink RX2 64 "HeadGrid$State" "edgeHeads" "[I") (List.mem_of_getElem? (i := 4) rfl)) (fun _ h9 => h9) rfl dX2_digest_24 ?_
  refine vp_callSl (va_runS (As := [.long r4, .ref (ad 19)]) (rest := []) ⟨hx, hb, hml, hown, hts⟩ (c_X2_mixAll l dd cy _ 19 _ 12 _ (wC_n1 cy ad us2 X) (by decide) r4) (va_cwS 2 hts gX2_digest_X2_mixAll rfl rfl rfl hd_X2_mixAll ⟨Nat.le_of_ble_eq_true rfl, Nat.le_of_ble_eq_true rfl⟩) (rdW_S hP hK) rfl rfl hl.1 rfl (lv_room (Nat.le_of_ble_eq_true rfl)) dX2_digest_27 ⟨Nat.le_of_ble_eq_true rfl, Nat.le_of_ble_eq_true rfl⟩).run (fun r5 hr5 => ?_)
  refine lv_lstore_n (lv' := [(3, .long r5), (1, .long r1), (0, .ref (ad 0))]) hx hb dX2_digest_30 rfl hl (by decide) rfl (fun ls hl => ?_)
  refine lv_iconst (v := nI 0) hx hb dX2_digest_31 (by decide) ?_
  refine lv_istore (lv' := [(5, .int (nI 0)), (3, .long r5), (1, .long r1), (0, .ref (ad 0))]) hx hb dX2_digest_32 hl (by decide) rfl (fun ls hl => ?_)
  have hz36 : r5 = hmI (fun k9 => (nw u k9).toInt64) 36 2819 := by rw [hr5, hr36, hm36 us2, nw_congr c2]
  have n9 : nw us2 = nw u := nw_congr c2
  refine wLoopR (σ := Nat × Int64) (fun k x ls => k = 9 - x.1 ∧ (x.1 ≤ 9) ∧ (x.2 = hm5 (nw u) (u.2.1 24) x.1 (hmI (fun k9 => (nw u k9).toInt64) 36 2819)) ∧ lv_has ls 6 [(5, .int (nI x.1)), (3, .long x.2), (1, .long r1), (0, .ref (ad 0))]) ?_ _ (0, r5) _ ⟨rfl, (Nat.zero_le _), hz36, lv_sub hl [0, 1, 2, 3] rfl⟩
  intro ka x ls hI iha
  obtain ⟨j0, z⟩ := x
  obtain ⟨hka, hj0, hz, hl⟩ := hI
  have hka : ka = 9 - j0 := hka
  have hj0 : j0 ≤ 9 := hj0
  have hz : z = hm5 (nw u) (u.2.1 24) j0 (hmI (fun k9 => (nw u k9).toInt64) 36 2819) := hz
  have hl : lv_has ls 6 [(5, .int (nI j0)), (3, .long z), (1, .long r1), (0, .ref (ad 0))] := hl
  refine lv_iload hx hb dX2_digest_34 (lv_at hl 0 rfl) ?_
  refine lv_bipush (v := nI 9) hx hb dX2_digest_36 (by decide) ?_
  refine wn_icmp_ge (tgt := 129) hx hb dX2_digest_38 (by decide) (by omega) (by omega) (fun c6 => ?_) (fun c6 => ?_)
  · refine lv_lload_n hx hb dX2_digest_129 rfl (lv_at hl 1 rfl) ?_
    refine lv_lload_n hx hb dX2_digest_130 rfl (lv_at hl 2 rfl) ?_
    refine vp_callSl (va_runS (As := [.long z, .long r1]) (rest := []) ⟨hx, hb, hml, hown, hts⟩ (c_X2_mix l z r1) (va_cwS 2 hts gX2_digest_X2_mix rfl rfl rfl hd_X2_mix ⟨Nat.le_of_ble_eq_true rfl, Nat.le_of_ble_eq_true rfl⟩) ⟨fun a U g mk q => q, fun U hU hW => ⟨rfl, trivial⟩⟩ rfl rfl hl.1 rfl (lv_room (Nat.le_of_ble_eq_true rfl)) dX2_digest_131 ⟨Nat.le_of_ble_eq_true rfl, Nat.le_of_ble_eq_true rfl⟩).run (fun r7 hr7 => ?_)
    have hr7 : r7 = (31 * z + r1) := hr7
    subst hr7
    refine lv_topl (fun x8 ex8 => ?_)
    refine lv_lstore_n (lv' := [(3, .long x8), (5, .int (nI j0)), (1, .long r1), (0, .ref (ad 0))]) hx hb dX2_digest_134 rfl hl (by decide) rfl (fun ls hl => ?_)
    refine lv_lload_n hx hb dX2_digest_135 rfl (lv_at hl 2 rfl) ?_
    refine lv_lconst (v := 0) hx hb dX2_digest_136 rfl ?_
    refine wl_eq (tgt := 147) hx hb dX2_digest_137 dX2_digest_138 (by decide) (fun cZ => ?_) (fun cZ => ?_)
    · refine lv_lload_n hx hb dX2_digest_147 rfl (lv_at hl 0 rfl) ?_
      refine lv_aload_n hx hb dX2_digest_148 rfl (lv_at hl 3 rfl) ?_
      refine va_get (D := dd) (ci := 4) (v := .int us2.2.2.2.1) (C := RX2) (T := TX2) (N := 7) hx hb hts (fun _ h9 => List.mem_cons_of_mem _ (List.mem_append_left _ (List.mem_append_left _ (List.mem_append_left _ (List.mem_append_left _ (List.mem_append_right _ h9)))))) hown hK hP (0) (wC_0 cy ad us2 X) rfl 2 (by decide) (hts (Cond.fieldLink RX2 20 "HeadGrid" "savedCount" "I") (List.mem_of_getElem? (i := 10) rfl)) (fun _ h9 => h9) rfl dX2_digest_149 ?_
      refine lv_i2l hx hb dX2_digest_152 rfl ?_
      refine vp_callSl (va_runS (As := [.long x8, .long us2.2.2.2.1.toInt64]) (rest := []) ⟨hx, hb, hml, hown, hts⟩ (c_X2_mix l x8 us2.2.2.2.1.toInt64) (va_cwS 2 hts gX2_digest_X2_mix rfl rfl rfl hd_X2_mix ⟨Nat.le_of_ble_eq_true rfl, Nat.le_of_ble_eq_true rfl⟩) ⟨fun a U g mk q => q, fun U hU hW => ⟨rfl, trivial⟩⟩ rfl rfl hl.1 rfl (lv_room (Nat.le_of_ble_eq_true rfl)) dX2_digest_153 ⟨Nat.le_of_ble_eq_true rfl, Nat.le_of_ble_eq_true rfl⟩).run (fun r9 hr9 => ?_)
      have hr9 : r9 = (31 * x8 + us2.2.2.2.1.toInt64) := hr9
      subst hr9
      exact W.lret (v := (31 * x8 + us2.2.2.2.1.toInt64)) hx hb hr (fun t ht hW => ⟨⟨(31 * x8 + us2.2.2.2.1.toInt64), us2, rfl, ⟨by unfold dgF dgA; rw [lsN_f ((den_0 hrg).mp (by rw [← cE9]; exact cZ)), c4, ex8, hz, show j0 = 9 by omega, cE9]; rfl, cP⟩, by rw [ht]; exact hP, va_K.moved hW.alike hK, hD⟩, hS.F ht⟩) hS.2.2 dX2_digest_156
    · have htt : nR (gNow (nw u)) 9 = 511 := Classical.byContradiction (fun q9 => cZ (by rw [cE9]; exact (den_0 hrg).mpr q9))
      have hrg9 : rgM (nw us2) := by rw [n9]; exact hrg
      have ht9 : nR (gNow (nw us2)) 9 = 511 := by rw [n9]; exact htt
      have hsl9 : slv (nw us2) us2 := by rw [n9]; exact cS9
      refine lv_aload_n hx hb dX2_digest_141 rfl (lv_at hl 3 rfl) ?_
      refine lv_lload_n hx hb dX2_digest_142 rfl (lv_at hl 0 rfl) ?_
      refine vp_callSl (va_runV (As := [.long x8]) (rest := []) ⟨hx, hb, hml, hown, hts⟩ (c_X2_mixHeads l dd cy ad X tt us2 x8 hrg9 ht9 hsl9 (GM_rg hrg9)) (cwV 1 hts gX2_digest_X2_mixHeads rfl rfl rfl hd_X2_mixHeads ⟨Nat.le_of_ble_eq_true rfl, Nat.le_of_ble_eq_true rfl⟩) (rdC_V hP hK hSt hS (wC_0 cy ad us2 X) rfl) rfl rfl hl.1 rfl (lv_room (Nat.le_of_ble_eq_true rfl)) dX2_digest_143 ⟨Nat.le_of_ble_eq_true rfl, Nat.le_of_ble_eq_true rfl⟩).run (fun r10 hr10 => ?_)
      have hr10 : (hmH (nw us2) 9 x8) = r10 := hr10.symm
      subst hr10
      refine lv_topl (fun x11 ex11 => ?_)
      refine lv_lstore_n (lv' := [(3, .long x11), (5, .int (nI j0)), (1, .long r1), (0, .ref (ad 0))]) hx hb dX2_digest_146 rfl hl (by decide) rfl (fun ls hl => ?_)
      refine lv_lload_n hx hb dX2_digest_147 rfl (lv_at hl 0 rfl) ?_
      refine lv_aload_n hx hb dX2_digest_148 rfl (lv_at hl 3 rfl) ?_
      refine va_get (D := dd) (ci := 4) (v := .int us2.2.2.2.1) (C := RX2) (T := TX2) (N := 7) hx hb hts (fun _ h9 => List.mem_cons_of_mem _ (List.mem_append_left _ (List.mem_append_left _ (List.mem_append_left _ (List.mem_append_left _ (List.mem_append_right _ h9)))))) hown hK hP (0) (wC_0 cy ad us2 X) rfl 2 (by decide) (hts (Cond.fieldLink RX2 20 "HeadGrid" "savedCount" "I") (List.mem_of_getElem? (i := 10) rfl)) (fun _ h9 => h9) rfl dX2_digest_149 ?_
      refine lv_i2l hx hb dX2_digest_152 rfl ?_
      refine vp_callSl (va_runS (As := [.long x11, .long us2.2.2.2.1.toInt64]) (rest := []) ⟨hx, hb, hml, hown, hts⟩ (c_X2_mix l x11 us2.2.2.2.1.toInt64) (va_cwS 2 hts gX2_digest_X2_mix rfl rfl rfl hd_X2_mix ⟨Nat.le_of_ble_eq_true rfl, Nat.le_of_ble_eq_true rfl⟩) ⟨fun a U g mk q => q, fun U hU hW => ⟨rfl, trivial⟩⟩ rfl rfl hl.1 rfl (lv_room (Nat.le_of_ble_eq_true rfl)) dX2_digest_153 ⟨Nat.le_of_ble_eq_true rfl, Nat.le_of_ble_eq_true rfl⟩).run (fun r12 hr12 => ?_)
      have hr12 : r12 = (31 * x11 + us2.2.2.2.1.toInt64) := hr12
      subst hr12
      exact W.lret (v := (31 * x11 + us2.2.2.2.1.toInt64)) hx hb hr (fun t ht hW => ⟨⟨(31 * x11 + us2.2.2.2.1.toInt64), us2, rfl, ⟨by unfold dgF dgA; rw [lsN_t htt, c4, ex11, n9, ex8, hz, show j0 = 9 by omega, cE9]; rfl, cP⟩, by rw [ht]; exact hP, va_K.moved hW.alike hK, hD⟩, hS.F ht⟩) hS.2.2 dX2_digest_156
  · refine lv_lload_n hx hb dX2_digest_41 rfl (lv_at hl 1 rfl) ?_
    refine lv_aload_n hx hb dX2_digest_42 rfl (lv_at hl 3 rfl) ?_
    refine va_get (D := dd) (ci := 4) (v := .ref (ad 17)) (C := RX2) (T := TX2) (N := 7) hx hb hts (fun _ h9 => List.mem_cons_of_mem _ (List.mem_append_left _ (List.mem_append_left _ (List.mem_append_left _ (List.mem_append_left _ (List.mem_append_right _ h9)))))) hown hK hP (0) (wC_0 cy ad us2 X) rfl 0 (by decide) (hts (Cond.fieldLink RX2 10 "HeadGrid" "now" "LHeadGrid$State;") (List.mem_of_getElem? (i := 2) rfl)) (fun _ h9 => h9) rfl dX2_digest_43 ?_
    refine va_get (D := dd) (ci := 3) (v := .ref (ad 20)) (C := RX1) (T := TX1) (N := 7) hx hb hts (fun _ h9 => List.mem_cons_of_mem _ (List.mem_append_left _ (List.mem_append_left _ (List.mem_append_left _ (List.mem_append_right _ h9))))) hown hK hP (17) (wC_now cy ad us2 X) rfl 2 (by decide) (hts (Cond.fieldLink RX2 70 "HeadGrid$State" "recharges" "[I") (List.mem_of_getElem? (i := 5) rfl)) (fun _ h9 => h9) rfl dX2_digest_46 ?_
    refine lv_iload hx hb dX2_digest_49 (lv_at hl 0 rfl) ?_
    refine wa_iald hx hb hK hP (wC_n2 cy ad us2 X) (t0 := 0) rfl (i := j0) (by omega) (by decide) dX2_digest_51 ?_
    refine lv_i2l hx hb dX2_digest_52 rfl ?_
    refine vp_callSl (va_runS (As := [.long z, .long ((us2.1 20 j0).toInt64)]) (rest := []) ⟨hx, hb, hml, hown, hts⟩ (c_X2_mix l z ((us2.1 20 j0).toInt64)) (va_cwS 2 hts gX2_digest_X2_mix rfl rfl rfl hd_X2_mix ⟨Nat.le_of_ble_eq_true rfl, Nat.le_of_ble_eq_true rfl⟩) ⟨fun a U g mk q => q, fun U hU hW => ⟨rfl, trivial⟩⟩ rfl rfl hl.1 rfl (lv_room (Nat.le_of_ble_eq_true rfl)) dX2_digest_53 ⟨Nat.le_of_ble_eq_true rfl, Nat.le_of_ble_eq_true rfl⟩).run (fun r13 hr13 => ?_)
    have hr13 : r13 = (31 * z + ((us2.1 20 j0).toInt64)) := hr13
    subst hr13
    refine lv_topl (fun x14 ex14 => ?_)
    refine lv_lstore_n (lv' := [(3, .long x14), (5, .int (nI j0)), (1, .long r1), (0, .ref (ad 0))]) hx hb dX2_digest_56 rfl hl (by decide) rfl (fun ls hl => ?_)
    refine lv_lload_n hx hb dX2_digest_57 rfl (lv_at hl 0 rfl) ?_
    refine lv_aload_n hx hb dX2_digest_58 rfl (lv_at hl 3 rfl) ?_
    refine va_get (D := dd) (ci := 4) (v := .ref (ad 17)) (C := RX2) (T := TX2) (N := 7) hx hb hts (fun _ h9 => List.mem_cons_of_mem _ (List.mem_append_left _ (List.mem_append_left _ (List.mem_append_left _ (List.mem_append_left _ (List.mem_append_right _ h9)))))) hown hK hP (0) (wC_0 cy ad us2 X) rfl 0 (by decide) (hts (Cond.fieldLink RX2 10 "HeadGrid" "now" "LHeadGrid$State;") (List.mem_of_getElem? (i := 2) rfl)) (fun _ h9 => h9) rfl dX2_digest_59 ?_
    refine va_get (D := dd) (ci := 3) (v := .ref (ad 21)) (C := RX1) (T := TX1) (N := 7) hx hb hts (fun _ h9 => List.mem_cons_of_mem _ (List.mem_append_left _ (List.mem_append_left _ (List.mem_append_left _ (List.mem_append_right _ h9))))) hown hK hP (17) (wC_now cy ad us2 X) rfl 3 (by decide) (hts (Cond.fieldLink RX2 73 "HeadGrid$State" "rates" "[I") (List.mem_of_getElem? (i := 6) rfl)) (fun _ h9 => h9) rfl dX2_digest_62 ?_
    refine lv_iload hx hb dX2_digest_65 (lv_at hl 1 rfl) ?_
    refine wa_iald hx hb hK hP (wC_n3 cy ad us2 X) (t0 := 0) rfl (i := j0) (by omega) (by decide) dX2_digest_67 ?_
    refine lv_i2l hx hb dX2_digest_68 rfl ?_
    refine vp_callSl (va_runS (As := [.long x14, .long ((us2.1 21 j0).toInt64)]) (rest := []) ⟨hx, hb, hml, hown, hts⟩ (c_X2_mix l x14 ((us2.1 21 j0).toInt64)) (va_cwS 2 hts gX2_digest_X2_mix rfl rfl rfl hd_X2_mix ⟨Nat.le_of_ble_eq_true rfl, Nat.le_of_ble_eq_true rfl⟩) ⟨fun a U g mk q => q, fun U hU hW => ⟨rfl, trivial⟩⟩ rfl rfl hl.1 rfl (lv_room (Nat.le_of_ble_eq_true rfl)) dX2_digest_69 ⟨Nat.le_of_ble_eq_true rfl, Nat.le_of_ble_eq_true rfl⟩).run (fun r15 hr15 => ?_)
    have hr15 : r15 = (31 * x14 + ((us2.1 21 j0).toInt64)) := hr15
    subst hr15
    refine lv_topl (fun x16 ex16 => ?_)
    refine lv_lstore_n (lv' := [(3, .long x16), (5, .int (nI j0)), (1, .long r1), (0, .ref (ad 0))]) hx hb dX2_digest_72 rfl hl (by decide) rfl (fun ls hl => ?_)
    refine lv_lload_n hx hb dX2_digest_73 rfl (lv_at hl 0 rfl) ?_
    refine lv_aload_n hx hb dX2_digest_74 rfl (lv_at hl 3 rfl) ?_
    refine va_get (D := dd) (ci := 4) (v := .ref (ad 17)) (C := RX2) (T := TX2) (N := 7) hx hb hts (fun _ h9 => List.mem_cons_of_mem _ (List.mem_append_left _ (List.mem_append_left _ (List.mem_append_left _ (List.mem_append_left _ (List.mem_append_right _ h9)))))) hown hK hP (0) (wC_0 cy ad us2 X) rfl 0 (by decide) (hts (Cond.fieldLink RX2 10 "HeadGrid" "now" "LHeadGrid$State;") (List.mem_of_getElem? (i := 2) rfl)) (fun _ h9 => h9) rfl dX2_digest_75 ?_
    refine va_get (D := dd) (ci := 3) (v := .ref (ad 22)) (C := RX1) (T := TX1) (N := 7) hx hb hts (fun _ h9 => List.mem_cons_of_mem _ (List.mem_append_left _ (List.mem_append_left _ (List.mem_append_left _ (List.mem_append_right _ h9))))) hown hK hP (17) (wC_now cy ad us2 X) rfl 4 (by decide) (hts (Cond.fieldLink RX2 76 "HeadGrid$State" "floors" "[I") (List.mem_of_getElem? (i := 7) rfl)) (fun _ h9 => h9) rfl dX2_digest_78 ?_
    refine lv_iload hx hb dX2_digest_81 (lv_at hl 1 rfl) ?_
    refine wa_iald hx hb hK hP (wC_n4 cy ad us2 X) (t0 := 0) rfl (i := j0) (by omega) (by decide) dX2_digest_83 ?_
    refine lv_i2l hx hb dX2_digest_84 rfl ?_
    refine vp_callSl (va_runS (As := [.long x16, .long ((us2.1 22 j0).toInt64)]) (rest := []) ⟨hx, hb, hml, hown, hts⟩ (c_X2_mix l x16 ((us2.1 22 j0).toInt64)) (va_cwS 2 hts gX2_digest_X2_mix rfl rfl rfl hd_X2_mix ⟨Nat.le_of_ble_eq_true rfl, Nat.le_of_ble_eq_true rfl⟩) ⟨fun a U g mk q => q, fun U hU hW => ⟨rfl, trivial⟩⟩ rfl rfl hl.1 rfl (lv_room (Nat.le_of_ble_eq_true rfl)) dX2_digest_85 ⟨Nat.le_of_ble_eq_true rfl, Nat.le_of_ble_eq_true rfl⟩).run (fun r17 hr17 => ?_)
    have hr17 : r17 = (31 * x16 + ((us2.1 22 j0).toInt64)) := hr17
    subst hr17
    refine lv_topl (fun x18 ex18 => ?_)
    refine lv_lstore_n (lv' := [(3, .long x18), (5, .int (nI j0)), (1, .long r1), (0, .ref (ad 0))]) hx hb dX2_digest_88 rfl hl (by decide) rfl (fun ls hl => ?_)
    refine lv_lload_n hx hb dX2_digest_89 rfl (lv_at hl 0 rfl) ?_
    refine lv_aload_n hx hb dX2_digest_90 rfl (lv_at hl 3 rfl) ?_
    refine va_get (D := dd) (ci := 4) (v := .ref (ad 17)) (C := RX2) (T := TX2) (N := 7) hx hb hts (fun _ h9 => List.mem_cons_of_mem _ (List.mem_append_left _ (List.mem_append_left _ (List.mem_append_left _ (List.mem_append_left _ (List.mem_append_right _ h9)))))) hown hK hP (0) (wC_0 cy ad us2 X) rfl 0 (by decide) (hts (Cond.fieldLink RX2 10 "HeadGrid" "now" "LHeadGrid$State;") (List.mem_of_getElem? (i := 2) rfl)) (fun _ h9 => h9) rfl dX2_digest_91 ?_
    refine va_get (D := dd) (ci := 3) (v := .ref (ad 23)) (C := RX1) (T := TX1) (N := 7) hx hb hts (fun _ h9 => List.mem_cons_of_mem _ (List.mem_append_left _ (List.mem_append_left _ (List.mem_append_left _ (List.mem_append_right _ h9))))) hown hK hP (17) (wC_now cy ad us2 X) rfl 5 (by decide) (hts (Cond.fieldLink RX2 79 "HeadGrid$State" "limits" "[I") (List.mem_of_getElem? (i := 8) rfl)) (fun _ h9 => h9) rfl dX2_digest_94 ?_
    refine lv_iload hx hb dX2_digest_97 (lv_at hl 1 rfl) ?_
    refine wa_iald hx hb hK hP (wC_n5 cy ad us2 X) (t0 := 0) rfl (i := j0) (by omega) (by decide) dX2_digest_99 ?_
    refine lv_i2l hx hb dX2_digest_100 rfl ?_
    refine vp_callSl (va_runS (As := [.long x18, .long ((us2.1 23 j0).toInt64)]) (rest := []) ⟨hx, hb, hml, hown, hts⟩ (c_X2_mix l x18 ((us2.1 23 j0).toInt64)) (va_cwS 2 hts gX2_digest_X2_mix rfl rfl rfl hd_X2_mix ⟨Nat.le_of_ble_eq_true rfl, Nat.le_of_ble_eq_true rfl⟩) ⟨fun a U g mk q => q, fun U hU hW => ⟨rfl, trivial⟩⟩ rfl rfl hl.1 rfl (lv_room (Nat.le_of_ble_eq_true rfl)) dX2_digest_101 ⟨Nat.le_of_ble_eq_true rfl, Nat.le_of_ble_eq_true rfl⟩).run (fun r19 hr19 => ?_)
    have hr19 : r19 = (31 * x18 + ((us2.1 23 j0).toInt64)) := hr19
    subst hr19
    refine lv_topl (fun x20 ex20 => ?_)
    refine lv_lstore_n (lv' := [(3, .long x20), (5, .int (nI j0)), (1, .long r1), (0, .ref (ad 0))]) hx hb dX2_digest_104 rfl hl (by decide) rfl (fun ls hl => ?_)
    refine lv_lload_n hx hb dX2_digest_105 rfl (lv_at hl 0 rfl) ?_
    refine lv_aload_n hx hb dX2_digest_106 rfl (lv_at hl 3 rfl) ?_
    refine va_get (D := dd) (ci := 4) (v := .ref (ad 17)) (C := RX2) (T := TX2) (N := 7) hx hb hts (fun _ h9 => List.mem_cons_of_mem _ (List.mem_append_left _ (List.mem_append_left _ (List.mem_append_left _ (List.mem_append_left _ (List.mem_append_right _ h9)))))) hown hK hP (0) (wC_0 cy ad us2 X) rfl 0 (by decide) (hts (Cond.fieldLink RX2 10 "HeadGrid" "now" "LHeadGrid$State;") (List.mem_of_getElem? (i := 2) rfl)) (fun _ h9 => h9) rfl dX2_digest_107 ?_
    refine va_get (D := dd) (ci := 3) (v := .ref (ad 24)) (C := RX1) (T := TX1) (N := 7) hx hb hts (fun _ h9 => List.mem_cons_of_mem _ (List.mem_append_left _ (List.mem_append_left _ (List.mem_append_left _ (List.mem_append_right _ h9))))) hown hK hP (17) (wC_now cy ad us2 X) rfl 6 (by decide) (hts (Cond.fieldLink RX2 135 "HeadGrid$State" "relaxedHeads" "[D") (List.mem_of_getElem? (i := 9) rfl)) (fun _ h9 => h9) rfl dX2_digest_110 ?_
    refine lv_iload hx hb dX2_digest_113 (lv_at hl 1 rfl) ?_
    refine wa_dald hx hb hK hP (wC_n6 cy ad us2 X) (t0 := 2) rfl (i := j0) (by omega) (by decide) dX2_digest_115 ?_
    refine vp_callSl (va_runS (As := [.double (us2.2.1 24 j0)]) (rest := [.long x20]) ⟨hx, hb, hml, hown, hts⟩ (c_X2_bitsOf l (us2.2.1 24 j0) (by rw [c3]; exact (hB j0 (by omega)).1)) (va_cwS 1 hts gX2_digest_X2_bitsOf rfl rfl rfl hd_X2_bitsOf ⟨Nat.le_of_ble_eq_true rfl, Nat.le_of_ble_eq_true rfl⟩) ⟨fun a U g mk q => q, fun U hU hW => ⟨rfl, trivial⟩⟩ rfl rfl hl.1 rfl (lv_room (Nat.le_of_ble_eq_true rfl)) dX2_digest_116 ⟨Nat.le_of_ble_eq_true rfl, Nat.le_of_ble_eq_true rfl⟩).run (fun r21 hr21 => ?_)
    have hr21 : r21 = (bsD (us2.2.1 24 j0)) := hr21
    subst hr21
    refine vp_callSl (va_runS (As := [.long x20, .long (bsD (us2.2.1 24 j0))]) (rest := []) ⟨hx, hb, hml, hown, hts⟩ (c_X2_mix l x20 (bsD (us2.2.1 24 j0))) (va_cwS 2 hts gX2_digest_X2_mix rfl rfl rfl hd_X2_mix ⟨Nat.le_of_ble_eq_true rfl, Nat.le_of_ble_eq_true rfl⟩) ⟨fun a U g mk q => q, fun U hU hW => ⟨rfl, trivial⟩⟩ rfl rfl hl.1 rfl (lv_room (Nat.le_of_ble_eq_true rfl)) dX2_digest_119 ⟨Nat.le_of_ble_eq_true rfl, Nat.le_of_ble_eq_true rfl⟩).run (fun r22 hr22 => ?_)
    have hr22 : r22 = (31 * x20 + (bsD (us2.2.1 24 j0))) := hr22
    subst hr22
    refine lv_topl (fun x23 ex23 => ?_)
    refine lv_lstore_n (lv' := [(3, .long x23), (5, .int (nI j0)), (1, .long r1), (0, .ref (ad 0))]) hx hb dX2_digest_122 rfl hl (by decide) rfl (fun ls hl => ?_)
    refine lv_iinc (v := (nI (j0 + 1))) (lv' := [(5, .int (nI (j0 + 1))), (3, .long x23), (1, .long r1), (0, .ref (ad 0))]) hx hb dX2_digest_123 hl (k := 1) rfl (nI_1 _) (by decide) rfl (fun ls hl => ?_)
    refine lv_goto (tgt := 34) hx hb dX2_digest_126 (by decide) ?_
    exact iha (9 - (j0 + 1)) (j0 + 1, x23) ls (by omega) ⟨rfl, (by show j0 + 1 ≤ 9; omega), (by rw [ex23, ex20, ex18, ex16, ex14, hz, c3, ← nw_2 us2 (by omega), ← nw_3 us2 (by omega), ← nw_4 us2 (by omega), ← nw_5 us2 (by omega), n9]; rfl), lv_sub hl [0, 1, 2, 3] rfl⟩
theorem hd_X2_head : yX2_head.cls = RX2 ∧ yX2_head.cls ≠ "java/lang/invoke/MethodHandle" ∧ yX2_head.cls ≠ "java/lang/invoke/VarHandle" ∧ (parseMethodDescriptor yX2_head.desc).map (fun d => d.parameters.length) = some 2 := by decide +kernel
set_option maxHeartbeats 4000000 in
set_option maxRecDepth 100000 in
/-- X2_head -/
theorem c_X2_head (l : Launch) (hlt : l.stackTraces = false) (dd : va_G) (cy : Nat → ClassId) (ad : Nat → Nat) (X : va_W) (tt : Nat × Nat) (N : Nat → Nat) (u : CS) (sz : Nat) (hrg : rgM (nw u)) (hsI : slI u) (cell part : Int32) : vx_Met l yX2_head wsX2_head ({ frames := 7, cells := 3, slots := 18, locals := 117 }) (va_Pc [.ref (ad 0), .int cell, .int part] (wrX dd cy tt N (wC cy ad u ++ X) sz)) (va_Ql (fun r u9 => (lkT (inR cell (nI 0) (nI 8)) part (lsN (nw u))) = 0 ∧ frP u u9 ∧ r = ptF (nw u) ((cn (nw u)).2.2.1 9 cell.toNatClampNeg) part) (wB dd cy (fun u9 : CS => wC cy ad u9 ++ X) (va_A (wC cy ad u ++ X) sz)) (va_A (wC cy ad u ++ X) sz)) (vx_X (fun u9 => frP u u9) (fun E u9 t => xsE E (lkT (inR cell (nI 0) (nI 8)) part (lsN (nw u))) [xIO, xIA, xAE] ∧ wB dd cy (fun u9 : CS => wC cy ad u9 ++ X) (va_A (wC cy ad u ++ X) sz) u9 t) (va_A (wC cy ad u ++ X) sz)) 3 18 (va_A (wC cy ad u ++ X) sz) := by
  refine vx_ofW (cc := cX2_head) (maxL := 3) (ret := (some .long)) (by decide) rfl ?_
  intro p e s m args below meth c s₁ B hml hnt hv
  obtain ⟨rfl, ⟨hsz, hP, hK, hD0, hSt⟩, hE⟩ := hv
  have hx := B.exec
  have hb := B.bytes
  have hr := B.returns
  have hts := atoms_spec (ws := wsX2_head) B.pre
  have hown : s.vm.findClass RX2 = some m.cls := findClass_of_methodNamed B.named
  have hlocks := B.notSynchronized
  subst hsz
  have hD := hD0.self (sz := s.heap.size)
  generalize hAe : va_A (wC cy ad u ++ X) s.heap.size = A at hD hSt hE ⊢
  have hA : ∀ q : Nat, s.heap.size ≤ q → A q := fun q h => by rw [← hAe]; exact Or.inr h
  have hS : va_S A s.heap s.heap [] := va_S.rf
  have hl := lv_entry ([.ref (ad 0), .int cell, .int part]) (n := 3) (Nat.le_of_ble_eq_true rfl)
  rw [lg_entry_eq]
  generalize (lg_sl ([.ref (ad 0), .int cell, .int part]) ++ List.replicate (3 - (lg_sl ([.ref (ad 0), .int cell, .int part])).length) Slot.unset).toArray = ls at hl ⊢
  have hl : lv_has ls 3 [(0, .ref (ad 0)), (1, .int cell), (2, .int part)] := hl
  refine lv_iload_n hx hb dX2_head_0 rfl (lv_at hl 1 rfl) ?_
  refine wx_req (vx_runS (As := [.int cell]) (rest := []) ⟨hx, hb, hml, hown, hts⟩ (c_X2_requireCell l hlt N _ cell) (va_cwS 1 hts gX2_head_X2_requireCell rfl rfl rfl hd_X2_requireCell ⟨Nat.le_of_ble_eq_true rfl, Nat.le_of_ble_eq_true rfl⟩) (exS_S hE hS hA) rfl rfl hl.1 rfl (lv_room (Nat.le_of_ble_eq_true rfl)) dX2_head_1 ⟨Nat.le_of_ble_eq_true rfl, Nat.le_of_ble_eq_true rfl⟩) hP hS hA (fun E9 ce q9 H locs hE9 o1 hP hS hce hcv hcl => ?_) (fun H locs o1 hP hS => ?_)
  · subst hE9
    exact vx_out (fun x9 h9 => (hnt x9 h9).elim) hlocks hce hcv hcl (fun t ht hvm => ⟨u, frP_rf hsI, ⟨⟨0, by unfold lkT; rw [o1]; rfl, rfl⟩, by rw [ht]; exact hP, va_K.moved hvm hK, hD⟩, hS.F ht⟩) hS.2.2 (Nat.le_of_ble_eq_true rfl) (Nat.le_of_ble_eq_true rfl)
  refine lv_iload_n hx hb dX2_head_4 rfl (lv_at hl 2 rfl) ?_
  refine wx_req (vx_runS (As := [.int part]) (rest := []) ⟨hx, hb, hml, hown, hts⟩ (c_X2_requirePart l hlt N _ part) (va_cwS 1 hts gX2_head_X2_requirePart rfl rfl rfl hd_X2_requirePart ⟨Nat.le_of_ble_eq_true rfl, Nat.le_of_ble_eq_true rfl⟩) (exS_S hE hS hA) rfl rfl hl.1 rfl (lv_room (Nat.le_of_ble_eq_true rfl)) dX2_head_5 ⟨Nat.le_of_ble_eq_true rfl, Nat.le_of_ble_eq_true rfl⟩) hP hS hA (fun E9 ce q9 H locs hE9 o2 hP hS hce hcv hcl => ?_) (fun H locs o2 hP hS => ?_)
  · subst hE9
    exact vx_out (fun x9 h9 => (hnt x9 h9).elim) hlocks hce hcv hcl (fun t ht hvm => ⟨u, frP_rf hsI, ⟨⟨1, by unfold lkT; rw [o1, o2]; rfl, rfl⟩, by rw [ht]; exact hP, va_K.moved hvm hK, hD⟩, hS.F ht⟩) hS.2.2 (Nat.le_of_ble_eq_true rfl) (Nat.le_of_ble_eq_true rfl)
  refine lv_aload_n hx hb dX2_head_8 rfl (lv_at hl 0 rfl) ?_
  refine wx_callv (vx_runV (As := []) (rest := []) ⟨hx, hb, hml, hown, hts⟩ (c_X2_requireExactHeads l hlt dd cy ad X tt N u _ hrg hsI) (cwV 0 hts gX2_head_X2_requireExactHeads rfl rfl rfl hd_X2_requireExactHeads ⟨Nat.le_of_ble_eq_true rfl, Nat.le_of_ble_eq_true rfl⟩) (wrX_V hP hK hD hSt hE hS hA (wC_0 cy ad u X) rfl) rfl rfl hl.1 rfl (lv_room (Nat.le_of_ble_eq_true rfl)) dX2_head_9 ⟨Nat.le_of_ble_eq_true rfl, Nat.le_of_ble_eq_true rfl⟩) hD hS hA (fun E9 ce q9 us3 H locs hE9 hpx hP hD hS hce hcv hcl => ?_) (fun us3 H locs hw9 hP hD hS => ?_)
  · have hE9 : E9 = xAE := hE9
    subst hE9
    have hlo := lsN_f hpx.1
    exact vx_out (fun x9 h9 => (hnt x9 h9).elim) hlocks hce hcv hcl (fun t ht hvm => ⟨us3, hpx.2, ⟨⟨2, by unfold lkT; rw [o1, o2, hlo]; rfl, rfl⟩, by rw [ht]; exact hP, va_K.moved hvm hK, hD⟩, hS.F ht⟩) hS.2.2 (Nat.le_of_ble_eq_true rfl) (Nat.le_of_ble_eq_true rfl)
  obtain ⟨htt, cP, cS9, c19⟩ := hw9
  have hlo := lsN_t htt
  have hnw : nw us3 = nw u := frP_nw cP
  have hrg9 : rgM (nw us3) := by rw [hnw]; exact hrg
  have ht9 : nR (gNow (nw us3)) 9 = 511 := by rw [hnw]; exact htt
  have hsl9 : slv (nw us3) us3 := by rw [hnw]; exact cS9
  obtain ⟨c0, hc0, ec0⟩ := inR_nat (n := 8) (by decide) o1
  obtain ⟨pt, hpt, ept⟩ := inR_nat (n := 1) (by decide) o2
  have hl : lv_has ls 3 [(0, .ref (ad 0)), (1, .int (nI c0)), (2, .int (nI pt))] := by rw [← ec0]; rw [← ept]; exact hl
  refine lv_aload_n hx hb dX2_head_12 rfl (lv_at hl 0 rfl) ?_
  refine lv_aload_n hx hb dX2_head_13 rfl (lv_at hl 0 rfl) ?_
  refine va_get (D := dd) (ci := 4) (v := .ref (ad 2)) (C := RX2) (T := TX2) (N := 7) hx hb hts (fun _ h9 => List.mem_cons_of_mem _ (List.mem_append_left _ (List.mem_append_left _ (List.mem_append_left _ (List.mem_append_left _ (List.mem_append_left _ (List.mem_append_left _ (List.mem_append_left _ (List.mem_append_right _ h9))))))))) hown hK hP (0) (wC_0 cy ad us3 X) rfl 3 (by decide) (hts (Cond.fieldLink RX2 27 "HeadGrid" "solution" "LHeadGrid$Solution;") (List.mem_of_getElem? (i := 1) rfl)) (fun _ h9 => h9) rfl dX2_head_14 ?_
  refine va_get (D := dd) (ci := 2) (v := .ref (ad 5)) (C := RX0) (T := TX0) (N := 4) hx hb hts (fun _ h9 => List.mem_cons_of_mem _ (List.mem_append_left _ (List.mem_append_left _ (List.mem_append_left _ (List.mem_append_left _ (List.mem_append_left _ (List.mem_append_left _ (List.mem_append_right _ h9)))))))) hown hK hP (2) (wC_2 cy ad us3 X) rfl 2 (by decide) (hts (Cond.fieldLink RX2 92 "HeadGrid$Solution" "scaledHeads" "[J") (List.mem_of_getElem? (i := 2) rfl)) (fun _ h9 => h9) rfl dX2_head_17 ?_
  refine lv_iload_n hx hb dX2_head_20 rfl (lv_at hl 1 rfl) ?_
  refine wa_lald hx hb hK hP (wC_5 cy ad us3 X) (t0 := 1) rfl (i := c0) (by omega) (by decide) dX2_head_21 ?_
  refine lv_iload_n hx hb dX2_head_22 rfl (lv_at hl 2 rfl) ?_
  refine vp_callSl (va_runV (As := [.long (us3.2.2.1 5 c0), .int (nI pt)]) (rest := []) ⟨hx, hb, hml, hown, hts⟩ (c_X2_partOf l dd cy ad X tt us3 (us3.2.2.1 5 c0) pt (by omega) (by rw [(hsl9.2 ht9).2 c0 (by omega)]; exact bd_ne (bd_hd9 hrg9 ht9 (by omega)) (by decide)) (den_l hrg9 ht9 hsl9).1 (den_l hrg9 ht9 hsl9).2.1 (den_l hrg9 ht9 hsl9).2.2) (cwV 2 hts gX2_head_X2_partOf rfl rfl rfl hd_X2_partOf ⟨Nat.le_of_ble_eq_true rfl, Nat.le_of_ble_eq_true rfl⟩) (rdC_V hP hK hSt hS (wC_0 cy ad us3 X) rfl) rfl rfl hl.1 rfl (lv_room (Nat.le_of_ble_eq_true rfl)) dX2_head_23 ⟨Nat.le_of_ble_eq_true rfl, Nat.le_of_ble_eq_true rfl⟩).run (fun r4 hr4 => ?_)
  have hr4 : ptF (nw us3) (us3.2.2.1 5 c0) (nI pt) = r4 := hr4.symm
  subst hr4
  exact vx_ret (W.widen (k := 3) (n := 18) (Nat.le_of_ble_eq_true rfl) (Nat.le_of_ble_eq_true rfl) (W.lret (v := ptF (nw us3) (us3.2.2.1 5 c0) (nI pt)) hx hb hr (fun t ht hW => ⟨⟨ptF (nw us3) (us3.2.2.1 5 c0) (nI pt), us3, rfl, ⟨by unfold lkT; rw [o1, o2, hlo]; rfl, cP, by rw [hnw, show cell.toNatClampNeg = c0 by rw [ec0, nI_clamp (by omega)], ept] <;> exact congrArg (fun z9 => ptF (nw u) z9 (nI pt)) (by rw [(hsl9.2 ht9).2 c0 (by omega), hnw] <;> first | rfl | (rw [show cell.toNatClampNeg = c0 by rw [ec0, nI_clamp (by omega)]]))⟩, by rw [ht]; exact hP, va_K.moved hW.alike hK, hD⟩, hS.F ht⟩) hS.2.2 dX2_head_26))
theorem hd_X2_flow : yX2_flow.cls = RX2 ∧ yX2_flow.cls ≠ "java/lang/invoke/MethodHandle" ∧ yX2_flow.cls ≠ "java/lang/invoke/VarHandle" ∧ (parseMethodDescriptor yX2_flow.desc).map (fun d => d.parameters.length) = some 2 := by decide +kernel
set_option maxHeartbeats 4000000 in
set_option maxRecDepth 100000 in
/-- X2_flow -/
theorem c_X2_flow (l : Launch) (hlt : l.stackTraces = false) (dd : va_G) (cy : Nat → ClassId) (ad : Nat → Nat) (X : va_W) (tt : Nat × Nat) (N : Nat → Nat) (u : CS) (sz : Nat) (hrg : rgM (nw u)) (hsI : slI u) (link part : Int32) : vx_Met l yX2_flow wsX2_flow ({ frames := 7, cells := 3, slots := 18, locals := 117 }) (va_Pc [.ref (ad 0), .int link, .int part] (wrX dd cy tt N (wC cy ad u ++ X) sz)) (va_Ql (fun r u9 => (lkT (inR link (nI 0) (nI 23)) part (lsN (nw u))) = 0 ∧ frP u u9 ∧ r = ptF (nw u) (flM (cn (nw u)) link.toNatClampNeg) part) (wB dd cy (fun u9 : CS => wC cy ad u9 ++ X) (va_A (wC cy ad u ++ X) sz)) (va_A (wC cy ad u ++ X) sz)) (vx_X (fun u9 => frP u u9) (fun E u9 t => xsE E (lkT (inR link (nI 0) (nI 23)) part (lsN (nw u))) [xIO, xIA, xAE] ∧ wB dd cy (fun u9 : CS => wC cy ad u9 ++ X) (va_A (wC cy ad u ++ X) sz) u9 t) (va_A (wC cy ad u ++ X) sz)) 3 18 (va_A (wC cy ad u ++ X) sz) := by
  refine vx_ofW (cc := cX2_flow) (maxL := 3) (ret := (some .long)) (by decide) rfl ?_
  intro p e s m args below meth c s₁ B hml hnt hv
  obtain ⟨rfl, ⟨hsz, hP, hK, hD0, hSt⟩, hE⟩ := hv
  have hx := B.exec
  have hb := B.bytes
  have hr := B.returns
  have hts := atoms_spec (ws := wsX2_flow) B.pre
  have hown : s.vm.findClass RX2 = some m.cls := findClass_of_methodNamed B.named
  have hlocks := B.notSynchronized
  subst hsz
  have hD := hD0.self (sz := s.heap.size)
  generalize hAe : va_A (wC cy ad u ++ X) s.heap.size = A at hD hSt hE ⊢
  have hA : ∀ q : Nat, s.heap.size ≤ q → A q := fun q h => by rw [← hAe]; exact Or.inr h
  have hS : va_S A s.heap s.heap [] := va_S.rf
  have hl := lv_entry ([.ref (ad 0), .int link, .int part]) (n := 3) (Nat.le_of_ble_eq_true rfl)
  rw [lg_entry_eq]
  generalize (lg_sl ([.ref (ad 0), .int link, .int part]) ++ List.replicate (3 - (lg_sl ([.ref (ad 0), .int link, .int part])).length) Slot.unset).toArray = ls at hl ⊢
  have hl : lv_has ls 3 [(0, .ref (ad 0)), (1, .int link), (2, .int part)] := hl
  refine lv_iload_n hx hb dX2_flow_0 rfl (lv_at hl 1 rfl) ?_
  refine wx_req (vx_runS (As := [.int link]) (rest := []) ⟨hx, hb, hml, hown, hts⟩ (c_X2_requireLink l hlt N _ link) (va_cwS 1 hts gX2_flow_X2_requireLink rfl rfl rfl hd_X2_requireLink ⟨Nat.le_of_ble_eq_true rfl, Nat.le_of_ble_eq_true rfl⟩) (exS_S hE hS hA) rfl rfl hl.1 rfl (lv_room (Nat.le_of_ble_eq_true rfl)) dX2_flow_1 ⟨Nat.le_of_ble_eq_true rfl, Nat.le_of_ble_eq_true rfl⟩) hP hS hA (fun E9 ce q9 H locs hE9 o1 hP hS hce hcv hcl => ?_) (fun H locs o1 hP hS => ?_)
  · subst hE9
    exact vx_out (fun x9 h9 => (hnt x9 h9).elim) hlocks hce hcv hcl (fun t ht hvm => ⟨u, frP_rf hsI, ⟨⟨0, by unfold lkT; rw [o1]; rfl, rfl⟩, by rw [ht]; exact hP, va_K.moved hvm hK, hD⟩, hS.F ht⟩) hS.2.2 (Nat.le_of_ble_eq_true rfl) (Nat.le_of_ble_eq_true rfl)
  refine lv_iload_n hx hb dX2_flow_4 rfl (lv_at hl 2 rfl) ?_
  refine wx_req (vx_runS (As := [.int part]) (rest := []) ⟨hx, hb, hml, hown, hts⟩ (c_X2_requirePart l hlt N _ part) (va_cwS 1 hts gX2_flow_X2_requirePart rfl rfl rfl hd_X2_requirePart ⟨Nat.le_of_ble_eq_true rfl, Nat.le_of_ble_eq_true rfl⟩) (exS_S hE hS hA) rfl rfl hl.1 rfl (lv_room (Nat.le_of_ble_eq_true rfl)) dX2_flow_5 ⟨Nat.le_of_ble_eq_true rfl, Nat.le_of_ble_eq_true rfl⟩) hP hS hA (fun E9 ce q9 H locs hE9 o2 hP hS hce hcv hcl => ?_) (fun H locs o2 hP hS => ?_)
  · subst hE9
    exact vx_out (fun x9 h9 => (hnt x9 h9).elim) hlocks hce hcv hcl (fun t ht hvm => ⟨u, frP_rf hsI, ⟨⟨1, by unfold lkT; rw [o1, o2]; rfl, rfl⟩, by rw [ht]; exact hP, va_K.moved hvm hK, hD⟩, hS.F ht⟩) hS.2.2 (Nat.le_of_ble_eq_true rfl) (Nat.le_of_ble_eq_true rfl)
  refine lv_aload_n hx hb dX2_flow_8 rfl (lv_at hl 0 rfl) ?_
  refine wx_callv (vx_runV (As := []) (rest := []) ⟨hx, hb, hml, hown, hts⟩ (c_X2_requireExactHeads l hlt dd cy ad X tt N u _ hrg hsI) (cwV 0 hts gX2_flow_X2_requireExactHeads rfl rfl rfl hd_X2_requireExactHeads ⟨Nat.le_of_ble_eq_true rfl, Nat.le_of_ble_eq_true rfl⟩) (wrX_V hP hK hD hSt hE hS hA (wC_0 cy ad u X) rfl) rfl rfl hl.1 rfl (lv_room (Nat.le_of_ble_eq_true rfl)) dX2_flow_9 ⟨Nat.le_of_ble_eq_true rfl, Nat.le_of_ble_eq_true rfl⟩) hD hS hA (fun E9 ce q9 us3 H locs hE9 hpx hP hD hS hce hcv hcl => ?_) (fun us3 H locs hw9 hP hD hS => ?_)
  · have hE9 : E9 = xAE := hE9
    subst hE9
    have hlo := lsN_f hpx.1
    exact vx_out (fun x9 h9 => (hnt x9 h9).elim) hlocks hce hcv hcl (fun t ht hvm => ⟨us3, hpx.2, ⟨⟨2, by unfold lkT; rw [o1, o2, hlo]; rfl, rfl⟩, by rw [ht]; exact hP, va_K.moved hvm hK, hD⟩, hS.F ht⟩) hS.2.2 (Nat.le_of_ble_eq_true rfl) (Nat.le_of_ble_eq_true rfl)
  obtain ⟨htt, cP, cS9, c19⟩ := hw9
  have hlo := lsN_t htt
  have hnw : nw us3 = nw u := frP_nw cP
  have hrg9 : rgM (nw us3) := by rw [hnw]; exact hrg
  have ht9 : nR (gNow (nw us3)) 9 = 511 := by rw [hnw]; exact htt
  have hsl9 : slv (nw us3) us3 := by rw [hnw]; exact cS9
  obtain ⟨c0, hc0, ec0⟩ := inR_nat (n := 23) (by decide) o1
  obtain ⟨pt, hpt, ept⟩ := inR_nat (n := 1) (by decide) o2
  have hl : lv_has ls 3 [(0, .ref (ad 0)), (1, .int (nI c0)), (2, .int (nI pt))] := by rw [← ec0]; rw [← ept]; exact hl
  refine lv_aload_n hx hb dX2_flow_12 rfl (lv_at hl 0 rfl) ?_
  refine lv_aload_n hx hb dX2_flow_13 rfl (lv_at hl 0 rfl) ?_
  refine lv_iload_n hx hb dX2_flow_14 rfl (lv_at hl 1 rfl) ?_
  refine vp_callSl (va_runV (As := [.int (nI c0)]) (rest := [.ref (ad 0)]) ⟨hx, hb, hml, hown, hts⟩ (c_X2_scaledFlow l dd cy ad X tt us3 c0 (by omega) hrg9 ht9 hsl9) (cwV 1 hts gX2_flow_X2_scaledFlow rfl rfl rfl hd_X2_scaledFlow ⟨Nat.le_of_ble_eq_true rfl, Nat.le_of_ble_eq_true rfl⟩) (rdC_V hP hK hSt hS (wC_0 cy ad us3 X) rfl) rfl rfl hl.1 rfl (lv_room (Nat.le_of_ble_eq_true rfl)) dX2_flow_15 ⟨Nat.le_of_ble_eq_true rfl, Nat.le_of_ble_eq_true rfl⟩).run (fun r4 hr4 => ?_)
  have hr4 : (flK (nw us3) c0) = r4 := hr4.symm
  subst hr4
  refine lv_iload_n hx hb dX2_flow_18 rfl (lv_at hl 2 rfl) ?_
  refine vp_callSl (va_runV (As := [.long (flK (nw us3) c0), .int (nI pt)]) (rest := []) ⟨hx, hb, hml, hown, hts⟩ (c_X2_partOf l dd cy ad X tt us3 (flK (nw us3) c0) pt (by omega) (by rw [flK_M (by omega)]; exact bd_ne (bd_fl hrg9 ht9 (by omega)) (by decide)) (den_l hrg9 ht9 hsl9).1 (den_l hrg9 ht9 hsl9).2.1 (den_l hrg9 ht9 hsl9).2.2) (cwV 2 hts gX2_flow_X2_partOf rfl rfl rfl hd_X2_partOf ⟨Nat.le_of_ble_eq_true rfl, Nat.le_of_ble_eq_true rfl⟩) (rdC_V hP hK hSt hS (wC_0 cy ad us3 X) rfl) rfl rfl hl.1 rfl (lv_room (Nat.le_of_ble_eq_true rfl)) dX2_flow_19 ⟨Nat.le_of_ble_eq_true rfl, Nat.le_of_ble_eq_true rfl⟩).run (fun r5 hr5 => ?_)
  have hr5 : ptF (nw us3) (flK (nw us3) c0) (nI pt) = r5 := hr5.symm
  subst hr5
  exact vx_ret (W.widen (k := 3) (n := 18) (Nat.le_of_ble_eq_true rfl) (Nat.le_of_ble_eq_true rfl) (W.lret (v := ptF (nw us3) (flK (nw us3) c0) (nI pt)) hx hb hr (fun t ht hW => ⟨⟨ptF (nw us3) (flK (nw us3) c0) (nI pt), us3, rfl, ⟨by unfold lkT; rw [o1, o2, hlo]; rfl, cP, by rw [hnw, show link.toNatClampNeg = c0 by rw [ec0, nI_clamp (by omega)], ept] <;> exact congrArg (fun z9 => ptF (nw u) z9 (nI pt)) (by rw [flK_M (by omega)] <;> first | rfl | (rw [show link.toNatClampNeg = c0 by rw [ec0, nI_clamp (by omega)]]))⟩, by rw [ht]; exact hP, va_K.moved hW.alike hK, hD⟩, hS.F ht⟩) hS.2.2 dX2_flow_22))
theorem hd_X2_inflow : yX2_inflow.cls = RX2 ∧ yX2_inflow.cls ≠ "java/lang/invoke/MethodHandle" ∧ yX2_inflow.cls ≠ "java/lang/invoke/VarHandle" ∧ (parseMethodDescriptor yX2_inflow.desc).map (fun d => d.parameters.length) = some 2 := by decide +kernel
set_option maxHeartbeats 4000000 in
set_option maxRecDepth 100000 in
/-- X2_inflow -/
theorem c_X2_inflow (l : Launch) (hlt : l.stackTraces = false) (dd : va_G) (cy : Nat → ClassId) (ad : Nat → Nat) (X : va_W) (tt : Nat × Nat) (N : Nat → Nat) (u : CS) (sz : Nat) (hrg : rgM (nw u)) (hsI : slI u) (side part : Int32) : vx_Met l yX2_inflow wsX2_inflow ({ frames := 7, cells := 3, slots := 18, locals := 117 }) (va_Pc [.ref (ad 0), .int side, .int part] (wrX dd cy tt N (wC cy ad u ++ X) sz)) (va_Ql (fun r u9 => (lkT (inR side (nI 0) (nI 3)) part (lsN (nw u))) = 0 ∧ frP u u9 ∧ r = ptF (nw u) (ifM (cn (nw u)) side.toNatClampNeg) part) (wB dd cy (fun u9 : CS => wC cy ad u9 ++ X) (va_A (wC cy ad u ++ X) sz)) (va_A (wC cy ad u ++ X) sz)) (vx_X (fun u9 => frP u u9) (fun E u9 t => xsE E (lkT (inR side (nI 0) (nI 3)) part (lsN (nw u))) [xIO, xIA, xAE] ∧ wB dd cy (fun u9 : CS => wC cy ad u9 ++ X) (va_A (wC cy ad u ++ X) sz) u9 t) (va_A (wC cy ad u ++ X) sz)) 3 18 (va_A (wC cy ad u ++ X) sz) := by
  refine vx_ofW (cc := cX2_inflow) (maxL := 3) (ret := (some .long)) (by decide) rfl ?_
  intro p e s m args below meth c s₁ B hml hnt hv
  obtain ⟨rfl, ⟨hsz, hP, hK, hD0, hSt⟩, hE⟩ := hv
  have hx := B.exec
  have hb := B.bytes
  have hr := B.returns
  have hts := atoms_spec (ws := wsX2_inflow) B.pre
  have hown : s.vm.findClass RX2 = some m.cls := findClass_of_methodNamed B.named
  have hlocks := B.notSynchronized
  subst hsz
  have hD := hD0.self (sz := s.heap.size)
  generalize hAe : va_A (wC cy ad u ++ X) s.heap.size = A at hD hSt hE ⊢
  have hA : ∀ q : Nat, s.heap.size ≤ q → A q := fun q h => by rw [← hAe]; exact Or.inr h
  have hS : va_S A s.heap s.heap [] := va_S.rf
  have hl := lv_entry ([.ref (ad 0), .int side, .int part]) (n := 3) (Nat.le_of_ble_eq_true rfl)
  rw [lg_entry_eq]
  generalize (lg_sl ([.ref (ad 0), .int side, .int part]) ++ List.replicate (3 - (lg_sl ([.ref (ad 0), .int side, .int part])).length) Slot.unset).toArray = ls at hl ⊢
  have hl : lv_has ls 3 [(0, .ref (ad 0)), (1, .int side), (2, .int part)] := hl
  refine lv_iload_n hx hb dX2_inflow_0 rfl (lv_at hl 1 rfl) ?_
  refine wx_req (vx_runS (As := [.int side]) (rest := []) ⟨hx, hb, hml, hown, hts⟩ (c_X2_requireSide l hlt N _ side) (va_cwS 1 hts gX2_inflow_X2_requireSide rfl rfl rfl hd_X2_requireSide ⟨Nat.le_of_ble_eq_true rfl, Nat.le_of_ble_eq_true rfl⟩) (exS_S hE hS hA) rfl rfl hl.1 rfl (lv_room (Nat.le_of_ble_eq_true rfl)) dX2_inflow_1 ⟨Nat.le_of_ble_eq_true rfl, Nat.le_of_ble_eq_true rfl⟩) hP hS hA (fun E9 ce q9 H locs hE9 o1 hP hS hce hcv hcl => ?_) (fun H locs o1 hP hS => ?_)
  · subst hE9
    exact vx_out (fun x9 h9 => (hnt x9 h9).elim) hlocks hce hcv hcl (fun t ht hvm => ⟨u, frP_rf hsI, ⟨⟨0, by unfold lkT; rw [o1]; rfl, rfl⟩, by rw [ht]; exact hP, va_K.moved hvm hK, hD⟩, hS.F ht⟩) hS.2.2 (Nat.le_of_ble_eq_true rfl) (Nat.le_of_ble_eq_true rfl)
  refine lv_iload_n hx hb dX2_inflow_4 rfl (lv_at hl 2 rfl) ?_
  refine wx_req (vx_runS (As := [.int part]) (rest := []) ⟨hx, hb, hml, hown, hts⟩ (c_X2_requirePart l hlt N _ part) (va_cwS 1 hts gX2_inflow_X2_requirePart rfl rfl rfl hd_X2_requirePart ⟨Nat.le_of_ble_eq_true rfl, Nat.le_of_ble_eq_true rfl⟩) (exS_S hE hS hA) rfl rfl hl.1 rfl (lv_room (Nat.le_of_ble_eq_true rfl)) dX2_inflow_5 ⟨Nat.le_of_ble_eq_true rfl, Nat.le_of_ble_eq_true rfl⟩) hP hS hA (fun E9 ce q9 H locs hE9 o2 hP hS hce hcv hcl => ?_) (fun H locs o2 hP hS => ?_)
  · subst hE9
    exact vx_out (fun x9 h9 => (hnt x9 h9).elim) hlocks hce hcv hcl (fun t ht hvm => ⟨u, frP_rf hsI, ⟨⟨1, by unfold lkT; rw [o1, o2]; rfl, rfl⟩, by rw [ht]; exact hP, va_K.moved hvm hK, hD⟩, hS.F ht⟩) hS.2.2 (Nat.le_of_ble_eq_true rfl) (Nat.le_of_ble_eq_true rfl)
  refine lv_aload_n hx hb dX2_inflow_8 rfl (lv_at hl 0 rfl) ?_
  refine wx_callv (vx_runV (As := []) (rest := []) ⟨hx, hb, hml, hown, hts⟩ (c_X2_requireExactHeads l hlt dd cy ad X tt N u _ hrg hsI) (cwV 0 hts gX2_inflow_X2_requireExactHeads rfl rfl rfl hd_X2_requireExactHeads ⟨Nat.le_of_ble_eq_true rfl, Nat.le_of_ble_eq_true rfl⟩) (wrX_V hP hK hD hSt hE hS hA (wC_0 cy ad u X) rfl) rfl rfl hl.1 rfl (lv_room (Nat.le_of_ble_eq_true rfl)) dX2_inflow_9 ⟨Nat.le_of_ble_eq_true rfl, Nat.le_of_ble_eq_true rfl⟩) hD hS hA (fun E9 ce q9 us3 H locs hE9 hpx hP hD hS hce hcv hcl => ?_) (fun us3 H locs hw9 hP hD hS => ?_)
  · have hE9 : E9 = xAE := hE9
    subst hE9
    have hlo := lsN_f hpx.1
    exact vx_out (fun x9 h9 => (hnt x9 h9).elim) hlocks hce hcv hcl (fun t ht hvm => ⟨us3, hpx.2, ⟨⟨2, by unfold lkT; rw [o1, o2, hlo]; rfl, rfl⟩, by rw [ht]; exact hP, va_K.moved hvm hK, hD⟩, hS.F ht⟩) hS.2.2 (Nat.le_of_ble_eq_true rfl) (Nat.le_of_ble_eq_true rfl)
  obtain ⟨htt, cP, cS9, c19⟩ := hw9
  have hlo := lsN_t htt
  have hnw : nw us3 = nw u := frP_nw cP
  have hrg9 : rgM (nw us3) := by rw [hnw]; exact hrg
  have ht9 : nR (gNow (nw us3)) 9 = 511 := by rw [hnw]; exact htt
  have hsl9 : slv (nw us3) us3 := by rw [hnw]; exact cS9
  obtain ⟨c0, hc0, ec0⟩ := inR_nat (n := 3) (by decide) o1
  obtain ⟨pt, hpt, ept⟩ := inR_nat (n := 1) (by decide) o2
  have hl : lv_has ls 3 [(0, .ref (ad 0)), (1, .int (nI c0)), (2, .int (nI pt))] := by rw [← ec0]; rw [← ept]; exact hl
  refine lv_aload_n hx hb dX2_inflow_12 rfl (lv_at hl 0 rfl) ?_
  refine lv_aload_n hx hb dX2_inflow_13 rfl (lv_at hl 0 rfl) ?_
  refine lv_iload_n hx hb dX2_inflow_14 rfl (lv_at hl 1 rfl) ?_
  refine vp_callSl (va_runV (As := [.int (nI c0)]) (rest := [.ref (ad 0)]) ⟨hx, hb, hml, hown, hts⟩ (c_X2_scaledInflow l dd cy ad X tt us3 c0 (by omega) hrg9 ht9 hsl9) (cwV 1 hts gX2_inflow_X2_scaledInflow rfl rfl rfl hd_X2_scaledInflow ⟨Nat.le_of_ble_eq_true rfl, Nat.le_of_ble_eq_true rfl⟩) (rdC_V hP hK hSt hS (wC_0 cy ad us3 X) rfl) rfl rfl hl.1 rfl (lv_room (Nat.le_of_ble_eq_true rfl)) dX2_inflow_15 ⟨Nat.le_of_ble_eq_true rfl, Nat.le_of_ble_eq_true rfl⟩).run (fun r4 hr4 => ?_)
  have hr4 : (ifM (cn (nw us3)) c0) = r4 := hr4.symm
  subst hr4
  refine lv_iload_n hx hb dX2_inflow_18 rfl (lv_at hl 2 rfl) ?_
  refine vp_callSl (va_runV (As := [.long (ifM (cn (nw us3)) c0), .int (nI pt)]) (rest := []) ⟨hx, hb, hml, hown, hts⟩ (c_X2_partOf l dd cy ad X tt us3 (ifM (cn (nw us3)) c0) pt (by omega) (bd_ne (bd_if hrg9 ht9 (by omega)) (by decide)) (den_l hrg9 ht9 hsl9).1 (den_l hrg9 ht9 hsl9).2.1 (den_l hrg9 ht9 hsl9).2.2) (cwV 2 hts gX2_inflow_X2_partOf rfl rfl rfl hd_X2_partOf ⟨Nat.le_of_ble_eq_true rfl, Nat.le_of_ble_eq_true rfl⟩) (rdC_V hP hK hSt hS (wC_0 cy ad us3 X) rfl) rfl rfl hl.1 rfl (lv_room (Nat.le_of_ble_eq_true rfl)) dX2_inflow_19 ⟨Nat.le_of_ble_eq_true rfl, Nat.le_of_ble_eq_true rfl⟩).run (fun r5 hr5 => ?_)
  have hr5 : ptF (nw us3) (ifM (cn (nw us3)) c0) (nI pt) = r5 := hr5.symm
  subst hr5
  exact vx_ret (W.widen (k := 3) (n := 18) (Nat.le_of_ble_eq_true rfl) (Nat.le_of_ble_eq_true rfl) (W.lret (v := ptF (nw us3) (ifM (cn (nw us3)) c0) (nI pt)) hx hb hr (fun t ht hW => ⟨⟨ptF (nw us3) (ifM (cn (nw us3)) c0) (nI pt), us3, rfl, ⟨by unfold lkT; rw [o1, o2, hlo]; rfl, cP, by rw [hnw, show side.toNatClampNeg = c0 by rw [ec0, nI_clamp (by omega)], ept] <;> exact congrArg (fun z9 => ptF (nw u) z9 (nI pt)) (by first | rfl | (rw [show side.toNatClampNeg = c0 by rw [ec0, nI_clamp (by omega)]]))⟩, by rw [ht]; exact hP, va_K.moved hW.alike hK, hD⟩, hS.F ht⟩) hS.2.2 dX2_inflow_22))
theorem hd_X2_influence : yX2_influence.cls = RX2 ∧ yX2_influence.cls ≠ "java/lang/invoke/MethodHandle" ∧ yX2_influence.cls ≠ "java/lang/invoke/VarHandle" ∧ (parseMethodDescriptor yX2_influence.desc).map (fun d => d.parameters.length) = some 3 := by decide +kernel
set_option maxHeartbeats 4000000 in
set_option maxRecDepth 100000 in
/-- X2_influence -/
theorem c_X2_influence (l : Launch) (hlt : l.stackTraces = false) (dd : va_G) (cy : Nat → ClassId) (ad : Nat → Nat) (X : va_W) (tt : Nat × Nat) (N : Nat → Nat) (u : CS) (sz : Nat) (hrg : rgM (nw u)) (hsI : slI u) (i j part : Int32) : vx_Met l yX2_influence wsX2_influence ({ frames := 7, cells := 4, slots := 24, locals := 117 }) (va_Pc [.ref (ad 0), .int i, .int j, .int part] (wrX dd cy tt N (wC cy ad u ++ X) sz)) (va_Ql (fun r u9 => (lkT (inR i (nI 0) (nI 8) && inR j (nI 0) (nI 8)) part (lsN (nw u))) = 0 ∧ frP u u9 ∧ r = ptF (nw u) ((cn (nw u)).2.2.1 8 (9 * i.toNatClampNeg + j.toNatClampNeg)) part) (wB dd cy (fun u9 : CS => wC cy ad u9 ++ X) (va_A (wC cy ad u ++ X) sz)) (va_A (wC cy ad u ++ X) sz)) (vx_X (fun u9 => frP u u9) (fun E u9 t => xsE E (lkT (inR i (nI 0) (nI 8) && inR j (nI 0) (nI 8)) part (lsN (nw u))) [xIO, xIA, xAE] ∧ wB dd cy (fun u9 : CS => wC cy ad u9 ++ X) (va_A (wC cy ad u ++ X) sz) u9 t) (va_A (wC cy ad u ++ X) sz)) 4 24 (va_A (wC cy ad u ++ X) sz) := by
  refine vx_ofW (cc := cX2_influence) (maxL := 4) (ret := (some .long)) (by decide) rfl ?_
  intro p e s m args below meth c s₁ B hml hnt hv
  obtain ⟨rfl, ⟨hsz, hP, hK, hD0, hSt⟩, hE⟩ := hv
  have hx := B.exec
  have hb := B.bytes
  have hr := B.returns
  have hts := atoms_spec (ws := wsX2_influence) B.pre
  have hown : s.vm.findClass RX2 = some m.cls := findClass_of_methodNamed B.named
  have hlocks := B.notSynchronized
  subst hsz
  have hD := hD0.self (sz := s.heap.size)
  generalize hAe : va_A (wC cy ad u ++ X) s.heap.size = A at hD hSt hE ⊢
  have hA : ∀ q : Nat, s.heap.size ≤ q → A q := fun q h => by rw [← hAe]; exact Or.inr h
  have hS : va_S A s.heap s.heap [] := va_S.rf
  have hl := lv_entry ([.ref (ad 0), .int i, .int j, .int part]) (n := 4) (Nat.le_of_ble_eq_true rfl)
  rw [lg_entry_eq]
  generalize (lg_sl ([.ref (ad 0), .int i, .int j, .int part]) ++ List.replicate (4 - (lg_sl ([.ref (ad 0), .int i, .int j, .int part])).length) Slot.unset).toArray = ls at hl ⊢
  have hl : lv_has ls 4 [(0, .ref (ad 0)), (1, .int i), (2, .int j), (3, .int part)] := hl
  refine lv_iload_n hx hb dX2_influence_0 rfl (lv_at hl 1 rfl) ?_
  refine wx_req (vx_runS (As := [.int i]) (rest := []) ⟨hx, hb, hml, hown, hts⟩ (c_X2_requireCell l hlt N _ i) (va_cwS 1 hts gX2_influence_X2_requireCell rfl rfl rfl hd_X2_requireCell ⟨Nat.le_of_ble_eq_true rfl, Nat.le_of_ble_eq_true rfl⟩) (exS_S hE hS hA) rfl rfl hl.1 rfl (lv_room (Nat.le_of_ble_eq_true rfl)) dX2_influence_1 ⟨Nat.le_of_ble_eq_true rfl, Nat.le_of_ble_eq_true rfl⟩) hP hS hA (fun E9 ce q9 H locs hE9 o1 hP hS hce hcv hcl => ?_) (fun H locs o1 hP hS => ?_)
  · subst hE9
    exact vx_out (fun x9 h9 => (hnt x9 h9).elim) hlocks hce hcv hcl (fun t ht hvm => ⟨u, frP_rf hsI, ⟨⟨0, by unfold lkT; rw [o1]; rfl, rfl⟩, by rw [ht]; exact hP, va_K.moved hvm hK, hD⟩, hS.F ht⟩) hS.2.2 (Nat.le_of_ble_eq_true rfl) (Nat.le_of_ble_eq_true rfl)
  refine lv_iload_n hx hb dX2_influence_4 rfl (lv_at hl 2 rfl) ?_
  refine wx_req (vx_runS (As := [.int j]) (rest := []) ⟨hx, hb, hml, hown, hts⟩ (c_X2_requireCell l hlt N _ j) (va_cwS 1 hts gX2_influence_X2_requireCell rfl rfl rfl hd_X2_requireCell ⟨Nat.le_of_ble_eq_true rfl, Nat.le_of_ble_eq_true rfl⟩) (exS_S hE hS hA) rfl rfl hl.1 rfl (lv_room (Nat.le_of_ble_eq_true rfl)) dX2_influence_5 ⟨Nat.le_of_ble_eq_true rfl, Nat.le_of_ble_eq_true rfl⟩) hP hS hA (fun E9 ce q9 H locs hE9 o2 hP hS hce hcv hcl => ?_) (fun H locs o2 hP hS => ?_)
  · subst hE9
    exact vx_out (fun x9 h9 => (hnt x9 h9).elim) hlocks hce hcv hcl (fun t ht hvm => ⟨u, frP_rf hsI, ⟨⟨0, by unfold lkT; rw [o1, o2]; rfl, rfl⟩, by rw [ht]; exact hP, va_K.moved hvm hK, hD⟩, hS.F ht⟩) hS.2.2 (Nat.le_of_ble_eq_true rfl) (Nat.le_of_ble_eq_true rfl)
  refine lv_iload_n hx hb dX2_influence_8 rfl (lv_at hl 3 rfl) ?_
  refine wx_req (vx_runS (As := [.int part]) (rest := []) ⟨hx, hb, hml, hown, hts⟩ (c_X2_requirePart l hlt N _ part) (va_cwS 1 hts gX2_influence_X2_requirePart rfl rfl rfl hd_X2_requirePart ⟨Nat.le_of_ble_eq_true rfl, Nat.le_of_ble_eq_true rfl⟩) (exS_S hE hS hA) rfl rfl hl.1 rfl (lv_room (Nat.le_of_ble_eq_true rfl)) dX2_influence_9 ⟨Nat.le_of_ble_eq_true rfl, Nat.le_of_ble_eq_true rfl⟩) hP hS hA (fun E9 ce q9 H locs hE9 o3 hP hS hce hcv hcl => ?_) (fun H locs o3 hP hS => ?_)
  · subst hE9
    exact vx_out (fun x9 h9 => (hnt x9 h9).elim) hlocks hce hcv hcl (fun t ht hvm => ⟨u, frP_rf hsI, ⟨⟨1, by unfold lkT; rw [o1, o2, o3]; rfl, rfl⟩, by rw [ht]; exact hP, va_K.moved hvm hK, hD⟩, hS.F ht⟩) hS.2.2 (Nat.le_of_ble_eq_true rfl) (Nat.le_of_ble_eq_true rfl)
  refine lv_aload_n hx hb dX2_influence_12 rfl (lv_at hl 0 rfl) ?_
  refine wx_callv (vx_runV (As := []) (rest := []) ⟨hx, hb, hml, hown, hts⟩ (c_X2_requireExactHeads l hlt dd cy ad X tt N u _ hrg hsI) (cwV 0 hts gX2_influence_X2_requireExactHeads rfl rfl rfl hd_X2_requireExactHeads ⟨Nat.le_of_ble_eq_true rfl, Nat.le_of_ble_eq_true rfl⟩) (wrX_V hP hK hD hSt hE hS hA (wC_0 cy ad u X) rfl) rfl rfl hl.1 rfl (lv_room (Nat.le_of_ble_eq_true rfl)) dX2_influence_13 ⟨Nat.le_of_ble_eq_true rfl, Nat.le_of_ble_eq_true rfl⟩) hD hS hA (fun E9 ce q9 us4 H locs hE9 hpx hP hD hS hce hcv hcl => ?_) (fun us4 H locs hw9 hP hD hS => ?_)
  · have hE9 : E9 = xAE := hE9
    subst hE9
    have hlo := lsN_f hpx.1
    exact vx_out (fun x9 h9 => (hnt x9 h9).elim) hlocks hce hcv hcl (fun t ht hvm => ⟨us4, hpx.2, ⟨⟨2, by unfold lkT; rw [o1, o2, o3, hlo]; rfl, rfl⟩, by rw [ht]; exact hP, va_K.moved hvm hK, hD⟩, hS.F ht⟩) hS.2.2 (Nat.le_of_ble_eq_true rfl) (Nat.le_of_ble_eq_true rfl)
  obtain ⟨htt, cP, cS9, c19⟩ := hw9
  have hlo := lsN_t htt
  have hnw : nw us4 = nw u := frP_nw cP
  have hrg9 : rgM (nw us4) := by rw [hnw]; exact hrg
  have ht9 : nR (gNow (nw us4)) 9 = 511 := by rw [hnw]; exact htt
  have hsl9 : slv (nw us4) us4 := by rw [hnw]; exact cS9
  obtain ⟨c0, hc0, ec0⟩ := inR_nat (n := 8) (by decide) o1
  obtain ⟨d0, hd0, ed0⟩ := inR_nat (n := 8) (by decide) o2
  obtain ⟨pt, hpt, ept⟩ := inR_nat (n := 1) (by decide) o3
  have hl : lv_has ls 4 [(0, .ref (ad 0)), (1, .int (nI c0)), (2, .int (nI d0)), (3, .int (nI pt))] := by rw [← ec0]; rw [← ed0]; rw [← ept]; exact hl
  refine lv_aload_n hx hb dX2_influence_16 rfl (lv_at hl 0 rfl) ?_
  refine lv_aload_n hx hb dX2_influence_17 rfl (lv_at hl 0 rfl) ?_
  refine va_get (D := dd) (ci := 4) (v := .ref (ad 2)) (C := RX2) (T := TX2) (N := 7) hx hb hts (fun _ h9 => List.mem_cons_of_mem _ (List.mem_append_left _ (List.mem_append_left _ (List.mem_append_left _ (List.mem_append_left _ (List.mem_append_left _ (List.mem_append_left _ (List.mem_append_left _ (List.mem_append_right _ h9))))))))) hown hK hP (0) (wC_0 cy ad us4 X) rfl 3 (by decide) (hts (Cond.fieldLink RX2 27 "HeadGrid" "solution" "LHeadGrid$Solution;") (List.mem_of_getElem? (i := 1) rfl)) (fun _ h9 => h9) rfl dX2_influence_18 ?_
  refine lv_iload_n hx hb dX2_influence_21 rfl (lv_at hl 1 rfl) ?_
  refine lv_iload_n hx hb dX2_influence_22 rfl (lv_at hl 2 rfl) ?_
  refine vp_callSl (va_runV (As := [.int (nI c0), .int (nI d0)]) (rest := [.ref (ad 0)]) ⟨hx, hb, hml, hown, hts⟩ (c_X0_scaledInfluence l dd cy ad X tt us4 c0 d0 (by omega) (by omega)) (cwV 2 hts gX2_influence_X0_scaledInfluence rfl rfl rfl hd_X0_scaledInfluence ⟨Nat.le_of_ble_eq_true rfl, Nat.le_of_ble_eq_true rfl⟩) (rdC_V hP hK hSt hS (wC_2 cy ad us4 X) rfl) rfl rfl hl.1 rfl (lv_room (Nat.le_of_ble_eq_true rfl)) dX2_influence_23 ⟨Nat.le_of_ble_eq_true rfl, Nat.le_of_ble_eq_true rfl⟩).run (fun r5 hr5 => ?_)
  have hr5 : (us4.2.2.1 (8 + c0) (9 + d0)) = r5 := hr5.symm
  subst hr5
  refine lv_iload_n hx hb dX2_influence_26 rfl (lv_at hl 3 rfl) ?_
  refine vp_callSl (va_runV (As := [.long (us4.2.2.1 (8 + c0) (9 + d0)), .int (nI pt)]) (rest := []) ⟨hx, hb, hml, hown, hts⟩ (c_X2_partOf l dd cy ad X tt us4 (us4.2.2.1 (8 + c0) (9 + d0)) pt (by omega) (by rw [infl_eq hsl9 ht9 (by omega) (by omega), cn_8 _ (by omega)]; exact bd_ne (bd_cof hrg9 ht9 (by omega) (by omega)) (by decide)) (den_l hrg9 ht9 hsl9).1 (den_l hrg9 ht9 hsl9).2.1 (den_l hrg9 ht9 hsl9).2.2) (cwV 2 hts gX2_influence_X2_partOf rfl rfl rfl hd_X2_partOf ⟨Nat.le_of_ble_eq_true rfl, Nat.le_of_ble_eq_true rfl⟩) (rdC_V hP hK hSt hS (wC_0 cy ad us4 X) rfl) rfl rfl hl.1 rfl (lv_room (Nat.le_of_ble_eq_true rfl)) dX2_influence_27 ⟨Nat.le_of_ble_eq_true rfl, Nat.le_of_ble_eq_true rfl⟩).run (fun r6 hr6 => ?_)
  have hr6 : ptF (nw us4) (us4.2.2.1 (8 + c0) (9 + d0)) (nI pt) = r6 := hr6.symm
  subst hr6
  exact vx_ret (W.widen (k := 4) (n := 24) (Nat.le_of_ble_eq_true rfl) (Nat.le_of_ble_eq_true rfl) (W.lret (v := ptF (nw us4) (us4.2.2.1 (8 + c0) (9 + d0)) (nI pt)) hx hb hr (fun t ht hW => ⟨⟨ptF (nw us4) (us4.2.2.1 (8 + c0) (9 + d0)) (nI pt), us4, rfl, ⟨by unfold lkT; rw [o1, o2, o3, hlo]; rfl, cP, by rw [hnw, show i.toNatClampNeg = c0 by rw [ec0, nI_clamp (by omega)], show j.toNatClampNeg = d0 by rw [ed0, nI_clamp (by omega)], ept] <;> exact congrArg (fun z9 => ptF (nw u) z9 (nI pt)) (by rw [infl_eq hsl9 ht9 (by omega) (by omega), hnw] <;> first | rfl | (rw [show i.toNatClampNeg = c0 by rw [ec0, nI_clamp (by omega)], show j.toNatClampNeg = d0 by rw [ed0, nI_clamp (by omega)]]))⟩, by rw [ht]; exact hP, va_K.moved hW.alike hK, hD⟩, hS.F ht⟩) hS.2.2 dX2_influence_30))
theorem hd_X2_drawdown : yX2_drawdown.cls = RX2 ∧ yX2_drawdown.cls ≠ "java/lang/invoke/MethodHandle" ∧ yX2_drawdown.cls ≠ "java/lang/invoke/VarHandle" ∧ (parseMethodDescriptor yX2_drawdown.desc).map (fun d => d.parameters.length) = some 2 := by decide +kernel
set_option maxHeartbeats 4000000 in
set_option maxRecDepth 100000 in
/-- X2_drawdown -/
theorem c_X2_drawdown (l : Launch) (hlt : l.stackTraces = false) (dd : va_G) (cy : Nat → ClassId) (ad : Nat → Nat) (X : va_W) (tt : Nat × Nat) (N : Nat → Nat) (u : CS) (sz : Nat) (hrg : rgM (nw u)) (hsI : slI u) (cell part : Int32) : vx_Met l yX2_drawdown wsX2_drawdown ({ frames := 7, cells := 3, slots := 18, locals := 117 }) (va_Pc [.ref (ad 0), .int cell, .int part] (wrX dd cy tt N (wC cy ad u ++ X) sz)) (va_Ql (fun r u9 => (lkT (inR cell (nI 0) (nI 8)) part (lsN (nw u))) = 0 ∧ frP u u9 ∧ r = ptF (nw u) (ddM (cn (nw u)) cell.toNatClampNeg) part) (wB dd cy (fun u9 : CS => wC cy ad u9 ++ X) (va_A (wC cy ad u ++ X) sz)) (va_A (wC cy ad u ++ X) sz)) (vx_X (fun u9 => frP u u9) (fun E u9 t => xsE E (lkT (inR cell (nI 0) (nI 8)) part (lsN (nw u))) [xIO, xIA, xAE] ∧ wB dd cy (fun u9 : CS => wC cy ad u9 ++ X) (va_A (wC cy ad u ++ X) sz) u9 t) (va_A (wC cy ad u ++ X) sz)) 3 18 (va_A (wC cy ad u ++ X) sz) := by
  refine vx_ofW (cc := cX2_drawdown) (maxL := 6) (ret := (some .long)) (by decide) rfl ?_
  intro p e s m args below meth c s₁ B hml hnt hv
  obtain ⟨rfl, ⟨hsz, hP, hK, hD0, hSt⟩, hE⟩ := hv
  have hx := B.exec
  have hb := B.bytes
  have hr := B.returns
  have hts := atoms_spec (ws := wsX2_drawdown) B.pre
  have hown : s.vm.findClass RX2 = some m.cls := findClass_of_methodNamed B.named
  have hlocks := B.notSynchronized
  subst hsz
  have hD := hD0.self (sz := s.heap.size)
  generalize hAe : va_A (wC cy ad u ++ X) s.heap.size = A at hD hSt hE ⊢
  have hA : ∀ q : Nat, s.heap.size ≤ q → A q := fun q h => by rw [← hAe]; exact Or.inr h
  have hS : va_S A s.heap s.heap [] := va_S.rf
  have hl := lv_entry ([.ref (ad 0), .int cell, .int part]) (n := 6) (Nat.le_of_ble_eq_true rfl)
  rw [lg_entry_eq]
  generalize (lg_sl ([.ref (ad 0), .int cell, .int part]) ++ List.replicate (6 - (lg_sl ([.ref (ad 0), .int cell, .int part])).length) Slot.unset).toArray = ls at hl ⊢
  have hl : lv_has ls 6 [(0, .ref (ad 0)), (1, .int cell), (2, .int part)] := hl
  refine lv_iload_n hx hb dX2_drawdown_0 rfl (lv_at hl 1 rfl) ?_
  refine wx_req (vx_runS (As := [.int cell]) (rest := []) ⟨hx, hb, hml, hown, hts⟩ (c_X2_requireCell l hlt N _ cell) (va_cwS 1 hts gX2_drawdown_X2_requireCell rfl rfl rfl hd_X2_requireCell ⟨Nat.le_of_ble_eq_true rfl, Nat.le_of_ble_eq_true rfl⟩) (exS_S hE hS hA) rfl rfl hl.1 rfl (lv_room (Nat.le_of_ble_eq_true rfl)) dX2_drawdown_1 ⟨Nat.le_of_ble_eq_true rfl, Nat.le_of_ble_eq_true rfl⟩) hP hS hA (fun E9 ce q9 H locs hE9 o1 hP hS hce hcv hcl => ?_) (fun H locs o1 hP hS => ?_)
  · subst hE9
    exact vx_out (fun x9 h9 => (hnt x9 h9).elim) hlocks hce hcv hcl (fun t ht hvm => ⟨u, frP_rf hsI, ⟨⟨0, by unfold lkT; rw [o1]; rfl, rfl⟩, by rw [ht]; exact hP, va_K.moved hvm hK, hD⟩, hS.F ht⟩) hS.2.2 (Nat.le_of_ble_eq_true rfl) (Nat.le_of_ble_eq_true rfl)
  refine lv_iload_n hx hb dX2_drawdown_4 rfl (lv_at hl 2 rfl) ?_
  refine wx_req (vx_runS (As := [.int part]) (rest := []) ⟨hx, hb, hml, hown, hts⟩ (c_X2_requirePart l hlt N _ part) (va_cwS 1 hts gX2_drawdown_X2_requirePart rfl rfl rfl hd_X2_requirePart ⟨Nat.le_of_ble_eq_true rfl, Nat.le_of_ble_eq_true rfl⟩) (exS_S hE hS hA) rfl rfl hl.1 rfl (lv_room (Nat.le_of_ble_eq_true rfl)) dX2_drawdown_5 ⟨Nat.le_of_ble_eq_true rfl, Nat.le_of_ble_eq_true rfl⟩) hP hS hA (fun E9 ce q9 H locs hE9 o2 hP hS hce hcv hcl => ?_) (fun H locs o2 hP hS => ?_)
  · subst hE9
    exact vx_out (fun x9 h9 => (hnt x9 h9).elim) hlocks hce hcv hcl (fun t ht hvm => ⟨u, frP_rf hsI, ⟨⟨1, by unfold lkT; rw [o1, o2]; rfl, rfl⟩, by rw [ht]; exact hP, va_K.moved hvm hK, hD⟩, hS.F ht⟩) hS.2.2 (Nat.le_of_ble_eq_true rfl) (Nat.le_of_ble_eq_true rfl)
  refine lv_aload_n hx hb dX2_drawdown_8 rfl (lv_at hl 0 rfl) ?_
  refine wx_callv (vx_runV (As := []) (rest := []) ⟨hx, hb, hml, hown, hts⟩ (c_X2_requireExactHeads l hlt dd cy ad X tt N u _ hrg hsI) (cwV 0 hts gX2_drawdown_X2_requireExactHeads rfl rfl rfl hd_X2_requireExactHeads ⟨Nat.le_of_ble_eq_true rfl, Nat.le_of_ble_eq_true rfl⟩) (wrX_V hP hK hD hSt hE hS hA (wC_0 cy ad u X) rfl) rfl rfl hl.1 rfl (lv_room (Nat.le_of_ble_eq_true rfl)) dX2_drawdown_9 ⟨Nat.le_of_ble_eq_true rfl, Nat.le_of_ble_eq_true rfl⟩) hD hS hA (fun E9 ce q9 us3 H locs hE9 hpx hP hD hS hce hcv hcl => ?_) (fun us3 H locs hw9 hP hD hS => ?_)
  · have hE9 : E9 = xAE := hE9
    subst hE9
    have hlo := lsN_f hpx.1
    exact vx_out (fun x9 h9 => (hnt x9 h9).elim) hlocks hce hcv hcl (fun t ht hvm => ⟨us3, hpx.2, ⟨⟨2, by unfold lkT; rw [o1, o2, hlo]; rfl, rfl⟩, by rw [ht]; exact hP, va_K.moved hvm hK, hD⟩, hS.F ht⟩) hS.2.2 (Nat.le_of_ble_eq_true rfl) (Nat.le_of_ble_eq_true rfl)
  obtain ⟨htt, cP, cS9, c19⟩ := hw9
  have hlo := lsN_t htt
  have hnw : nw us3 = nw u := frP_nw cP
  have hrg9 : rgM (nw us3) := by rw [hnw]; exact hrg
  have ht9 : nR (gNow (nw us3)) 9 = 511 := by rw [hnw]; exact htt
  have hsl9 : slv (nw us3) us3 := by rw [hnw]; exact cS9
  obtain ⟨c0, hc0, ec0⟩ := inR_nat (n := 8) (by decide) o1
  obtain ⟨pt, hpt, ept⟩ := inR_nat (n := 1) (by decide) o2
  have hl : lv_has ls 6 [(0, .ref (ad 0)), (1, .int (nI c0)), (2, .int (nI pt))] := by rw [← ec0]; rw [← ept]; exact hl
  refine lv_lconst (v := 0) hx hb dX2_drawdown_12 rfl ?_
  refine lv_lstore_n (lv' := [(3, .long 0), (0, .ref (ad 0)), (1, .int (nI c0)), (2, .int (nI pt))]) hx hb dX2_drawdown_13 rfl hl (by decide) rfl (fun ls hl => ?_)
  refine lv_iconst (v := nI 0) hx hb dX2_drawdown_14 (by decide) ?_
  refine lv_istore (lv' := [(5, .int (nI 0)), (3, .long 0), (0, .ref (ad 0)), (1, .int (nI c0)), (2, .int (nI pt))]) hx hb dX2_drawdown_15 hl (by decide) rfl (fun ls hl => ?_)
  refine wLoopR (σ := Nat × Int64) (fun k x ls => k = 9 - x.1 ∧ (x.1 ≤ 9) ∧ (x.2 = smL x.1 (fun j => (cn (nw us3)).2.2.1 8 (9 * c0 + j) * (nw us3 (45 + j)).toInt64)) ∧ lv_has ls 6 [(5, .int (nI x.1)), (3, .long x.2), (2, .int (nI pt)), (1, .int (nI c0)), (0, .ref (ad 0))]) ?_ _ (0, 0) _ ⟨rfl, (Nat.zero_le _), rfl, lv_sub hl [0, 1, 4, 3, 2] rfl⟩
  intro ka x ls hI iha
  obtain ⟨j0, z⟩ := x
  obtain ⟨hka, hj0, hz, hl⟩ := hI
  have hka : ka = 9 - j0 := hka
  have hj0 : j0 ≤ 9 := hj0
  have hz : z = smL j0 (fun j => (cn (nw us3)).2.2.1 8 (9 * c0 + j) * (nw us3 (45 + j)).toInt64) := hz
  have hl : lv_has ls 6 [(5, .int (nI j0)), (3, .long z), (2, .int (nI pt)), (1, .int (nI c0)), (0, .ref (ad 0))] := hl
  refine lv_iload hx hb dX2_drawdown_17 (lv_at hl 0 rfl) ?_
  refine lv_bipush (v := nI 9) hx hb dX2_drawdown_19 (by decide) ?_
  refine wn_icmp_ge (tgt := 55) hx hb dX2_drawdown_21 (by decide) (by omega) (by omega) (fun c4 => ?_) (fun c4 => ?_)
  · refine lv_aload_n hx hb dX2_drawdown_55 rfl (lv_at hl 4 rfl) ?_
    refine lv_lload_n hx hb dX2_drawdown_56 rfl (lv_at hl 1 rfl) ?_
    refine lv_iload_n hx hb dX2_drawdown_57 rfl (lv_at hl 2 rfl) ?_
    refine vp_callSl (va_runV (As := [.long z, .int (nI pt)]) (rest := []) ⟨hx, hb, hml, hown, hts⟩ (c_X2_partOf l dd cy ad X tt us3 z pt (by omega) (by rw [hz, show j0 = 9 by omega]; exact bd_ne (bd_dd hrg9 ht9 (by omega)) (by decide)) (den_l hrg9 ht9 hsl9).1 (den_l hrg9 ht9 hsl9).2.1 (den_l hrg9 ht9 hsl9).2.2) (cwV 2 hts gX2_drawdown_X2_partOf rfl rfl rfl hd_X2_partOf ⟨Nat.le_of_ble_eq_true rfl, Nat.le_of_ble_eq_true rfl⟩) (rdC_V hP hK hSt hS (wC_0 cy ad us3 X) rfl) rfl rfl hl.1 rfl (lv_room (Nat.le_of_ble_eq_true rfl)) dX2_drawdown_58 ⟨Nat.le_of_ble_eq_true rfl, Nat.le_of_ble_eq_true rfl⟩).run (fun r5 hr5 => ?_)
    have hr5 : ptF (nw us3) z (nI pt) = r5 := hr5.symm
    subst hr5
    exact vx_ret (W.widen (k := 3) (n := 18) (Nat.le_of_ble_eq_true rfl) (Nat.le_of_ble_eq_true rfl) (W.lret (v := ptF (nw us3) z (nI pt)) hx hb hr (fun t ht hW => ⟨⟨ptF (nw us3) z (nI pt), us3, rfl, ⟨by unfold lkT; rw [o1, o2, hlo]; rfl, cP, by rw [hnw, show cell.toNatClampNeg = c0 by rw [ec0, nI_clamp (by omega)], ept] <;> exact congrArg (fun z9 => ptF (nw u) z9 (nI pt)) (by rw [hz, show j0 = 9 by omega, hnw]; first | rfl | (rw [show cell.toNatClampNeg = c0 by rw [ec0, nI_clamp (by omega)]]; rfl))⟩, by rw [ht]; exact hP, va_K.moved hW.alike hK, hD⟩, hS.F ht⟩) hS.2.2 dX2_drawdown_61))
  · refine lv_lload_n hx hb dX2_drawdown_24 rfl (lv_at hl 1 rfl) ?_
    refine lv_aload_n hx hb dX2_drawdown_25 rfl (lv_at hl 4 rfl) ?_
    refine va_get (D := dd) (ci := 4) (v := .ref (ad 2)) (C := RX2) (T := TX2) (N := 7) hx hb hts (fun _ h9 => List.mem_cons_of_mem _ (List.mem_append_left _ (List.mem_append_left _ (List.mem_append_left _ (List.mem_append_left _ (List.mem_append_left _ (List.mem_append_left _ (List.mem_append_left _ (List.mem_append_right _ h9))))))))) hown hK hP (0) (wC_0 cy ad us3 X) rfl 3 (by decide) (hts (Cond.fieldLink RX2 27 "HeadGrid" "solution" "LHeadGrid$Solution;") (List.mem_of_getElem? (i := 1) rfl)) (fun _ h9 => h9) rfl dX2_drawdown_26 ?_
    refine lv_iload_n hx hb dX2_drawdown_29 rfl (lv_at hl 3 rfl) ?_
    refine lv_iload hx hb dX2_drawdown_30 (lv_at hl 0 rfl) ?_
    refine vp_callSl (va_runV (As := [.int (nI c0), .int (nI j0)]) (rest := [.long z]) ⟨hx, hb, hml, hown, hts⟩ (c_X0_scaledInfluence l dd cy ad X tt us3 c0 j0 (by omega) (by omega)) (cwV 2 hts gX2_drawdown_X0_scaledInfluence rfl rfl rfl hd_X0_scaledInfluence ⟨Nat.le_of_ble_eq_true rfl, Nat.le_of_ble_eq_true rfl⟩) (rdC_V hP hK hSt hS (wC_2 cy ad us3 X) rfl) rfl rfl hl.1 rfl (lv_room (Nat.le_of_ble_eq_true rfl)) dX2_drawdown_32 ⟨Nat.le_of_ble_eq_true rfl, Nat.le_of_ble_eq_true rfl⟩).run (fun r6 hr6 => ?_)
    have hr6 : (us3.2.2.1 (8 + c0) (9 + j0)) = r6 := hr6.symm
    subst hr6
    refine lv_aload_n hx hb dX2_drawdown_35 rfl (lv_at hl 4 rfl) ?_
    refine va_get (D := dd) (ci := 4) (v := .ref (ad 17)) (C := RX2) (T := TX2) (N := 7) hx hb hts (fun _ h9 => List.mem_cons_of_mem _ (List.mem_append_left _ (List.mem_append_left _ (List.mem_append_left _ (List.mem_append_left _ (List.mem_append_left _ (List.mem_append_left _ (List.mem_append_left _ (List.mem_append_right _ h9))))))))) hown hK hP (0) (wC_0 cy ad us3 X) rfl 0 (by decide) (hts (Cond.fieldLink RX2 10 "HeadGrid" "now" "LHeadGrid$State;") (List.mem_of_getElem? (i := 2) rfl)) (fun _ h9 => h9) rfl dX2_drawdown_36 ?_
    refine va_get (D := dd) (ci := 3) (v := .ref (ad 21)) (C := RX1) (T := TX1) (N := 7) hx hb hts (fun _ h9 => List.mem_cons_of_mem _ (List.mem_append_left _ (List.mem_append_left _ (List.mem_append_left _ (List.mem_append_left _ (List.mem_append_left _ (List.mem_append_left _ (List.mem_append_right _ h9)))))))) hown hK hP (17) (wC_now cy ad us3 X) rfl 3 (by decide) (hts (Cond.fieldLink RX2 73 "HeadGrid$State" "rates" "[I") (List.mem_of_getElem? (i := 3) rfl)) (fun _ h9 => h9) rfl dX2_drawdown_39 ?_
    refine lv_iload hx hb dX2_drawdown_42 (lv_at hl 0 rfl) ?_
    refine wa_iald hx hb hK hP (wC_n3 cy ad us3 X) (t0 := 0) rfl (i := j0) (by omega) (by decide) dX2_drawdown_44 ?_
    refine lv_i2l hx hb dX2_drawdown_45 rfl ?_
    refine lv_lmul hx hb dX2_drawdown_46 ?_
    refine lv_ladd hx hb dX2_drawdown_47 ?_
    refine lv_topl (fun x7 ex7 => ?_)
    refine lv_lstore_n (lv' := [(3, .long x7), (5, .int (nI j0)), (2, .int (nI pt)), (1, .int (nI c0)), (0, .ref (ad 0))]) hx hb dX2_drawdown_48 rfl hl (by decide) rfl (fun ls hl => ?_)
    refine lv_iinc (v := (nI (j0 + 1))) (lv' := [(5, .int (nI (j0 + 1))), (3, .long x7), (2, .int (nI pt)), (1, .int (nI c0)), (0, .ref (ad 0))]) hx hb dX2_drawdown_49 hl (k := 1) rfl (nI_1 _) (by decide) rfl (fun ls hl => ?_)
    refine lv_goto (tgt := 17) hx hb dX2_drawdown_52 (by decide) ?_
    exact iha (9 - (j0 + 1)) (j0 + 1, x7) ls (by omega) ⟨rfl, (by show j0 + 1 ≤ 9; omega), (by rw [ex7, hz, infl_eq hsl9 ht9 (by omega) (by omega), ← nw_3 us3 (by omega)]; rfl), lv_sub hl [0, 1, 2, 3, 4] rfl⟩

/-! the reference: the adjugate and the heads -/
/-- everything but the scratch rows 5 to 11, thrown, whole and hash is as it was -/
def frS (u u1 : MS) : Prop := u1.1 = u.1 ∧ u1.2.1 = u.2.1 ∧ u1.2.2.2.1 = u.2.2.2.1
theorem frS_rf {u : MS} : frS u u := ⟨rfl, rfl, rfl⟩
theorem frS_tr {u u1 u2 : MS} (h : frS u u1) (h2 : frS u1 u2) : frS u u2 := ⟨h2.1.trans h.1, h2.2.1.trans h.2.1, h2.2.2.trans h.2.2⟩
theorem frJ_S {ks : List Nat} {u u1 : MS} (h : frJ ks u u1) : frS u u1 := ⟨h.1, h.2.1, by rw [h.2.2.1]⟩
theorem det9_eq (M : Nat → Nat → Int) {r0 q0 : Nat} (h : r0 = 9 ∧ q0 = 9) : dW 9 (fun i k => M (skp r0 i) (skp q0 k)) 9 (fun _ => true) = det 9 M := by
  obtain ⟨rfl, rfl⟩ := h
  refine congrFun (dW_congr (fun i hi k hk => ?_)) (fun _ => true)
  rw [skp_lo hi, skp_lo hk]
/-- which places of the adjugate are laid -/
def adI (M : Nat → Nat → Int) (i j : Nat) (f : Nat → Int64) : Prop := ∀ a, a < 9 → ∀ b, b < 9 → ((a < i ∧ b < i) ∨ (a = i ∧ b < j) ∨ (b = i ∧ a < j)) → f (9 * a + b) = Int64.ofInt (cof 9 M a b)
theorem adI_next {M : Nat → Nat → Int} {i j : Nat} {f : Nat → Int64} (h : adI M i j f) (hj : i < j) : adI M (i + 1) 0 f := fun a ha b hb q => h a ha b hb (by omega)
theorem adI_step {M : Nat → Nat → Int} {i j : Nat} {f : Nat → Int64} {v : Int64} (h : adI M i j f) (hi : i < 9) (hj : j ≤ i) (hs : cof 9 M i j = cof 9 M j i) (hv : v = Int64.ofInt (cof 9 M i j)) : adI M i (j + 1) (vp_updL (vp_updL f (9 * i + j) v) (9 * j + i) v) := by
  intro a ha b hb q
  unfold vp_updL
  by_cases e1 : 9 * a + b = 9 * j + i
  · have : a = j ∧ b = i := by omega
    rw [if_pos e1, this.1, this.2, ← hs, hv]
  · rw [if_neg e1]
    by_cases e2 : 9 * a + b = 9 * i + j
    · have : a = i ∧ b = j := by omega
      rw [if_pos e2, this.1, this.2, hv]
    · rw [if_neg e2]
      exact h a ha b hb (by omega)
def hdI (f8 f6 : Nat → Int64) (i j : Nat) (f : Nat → Int64) : Prop := (∀ a, a < i → f a = smL 9 (fun b => f8 (9 * a + b) * f6 b)) ∧ f i = smL j (fun b => f8 (9 * i + b) * f6 b)
def hdO (f8 f6 : Nat → Int64) (i : Nat) (f : Nat → Int64) : Prop := ∀ a, a < i → f a = smL 9 (fun b => f8 (9 * a + b) * f6 b)
theorem hdI_0 {f8 f6 f : Nat → Int64} {i : Nat} (h : hdO f8 f6 i f) : hdI f8 f6 i 0 (vp_updL f i 0) := by
  refine ⟨fun a ha => ?_, ?_⟩
  · unfold vp_updL; rw [if_neg (by omega)]; exact h a ha
  · unfold vp_updL; rw [if_pos rfl]; rfl
theorem hdI_s {f8 f6 f : Nat → Int64} {i j : Nat} (h : hdI f8 f6 i j f) : hdI f8 f6 i (j + 1) (vp_updL f i (f i + f8 (9 * i + j) * f6 j)) := by
  refine ⟨fun a ha => ?_, ?_⟩
  · unfold vp_updL; rw [if_neg (by omega)]; exact h.1 a ha
  · unfold vp_updL; rw [if_pos rfl, h.2]; rfl
theorem hdI_n {f8 f6 f : Nat → Int64} {i : Nat} (h : hdI f8 f6 i 9 f) : hdO f8 f6 (i + 1) f := by
  intro a ha
  by_cases e : a = i
  · rw [e]; exact h.2
  · exact h.1 a (by omega)
/-- what stands when all is laid -/
def svd (now : Nat → Int32) (u1 : MS) : Prop := u1.2.2.2.2.2.1 = Int64.ofInt (det 9 (AM now)) ∧ (∀ a, a < 9 → ∀ b, b < 9 → u1.2.2.1 8 (9 * a + b) = Int64.ofInt (cof 9 (AM now) a b)) ∧ ∀ a, a < 9 → u1.2.2.1 9 a = smL 9 (fun b => Int64.ofInt (cof 9 (AM now) a b) * rtR now b 4)
theorem smL_congr {f g : Nat → Int64} : ∀ {n : Nat}, (∀ k, k < n → f k = g k) → smL n f = smL n g
  | 0, _ => rfl
  | n + 1, h => by rw [smL, smL, smL_congr (fun k hk => h k (Nat.lt_succ_of_lt hk)), h n (Nat.lt_succ_self n)]
theorem lmO_M {now : Nat → Int32} {f5 f6 : Nat → Int64} (h : lmO now 9 f5 f6) : ∀ i, i < 9 → ∀ j, j < 9 → f5 (9 * i + j) = Int64.ofInt (AM now i j) := fun i hi j hj => by rw [h.1 i hi j hj, if_pos hi, lmR_A hi hj]
theorem cof_sgn {M : Nat → Nat → Int} {i j : Nat} (hi : i < 9) (hj : j < 9) : ((i + j) % 2 = 0 → Int64.ofInt (dW 8 (fun r k => M (skp i r) (skp j k)) 8 (fun _ => true)) = Int64.ofInt (cof 9 M i j)) ∧ (¬ (i + j) % 2 = 0 → - Int64.ofInt (dW 8 (fun r k => M (skp i r) (skp j k)) 8 (fun _ => true)) = Int64.ofInt (cof 9 M i j)) := by
  rw [cof_minor (n := 8) M hi hj]
  refine ⟨fun h => ?_, fun h => ?_⟩
  · rw [show sg (i + j) = 1 from if_pos h, Int.one_mul]
  · rw [show sg (i + j) = -1 from if_neg h, Int.neg_mul, Int.one_mul, ofInt_neg64]
theorem hd_X3_determinantNow : yX3_determinantNow.cls = RX3 ∧ yX3_determinantNow.cls ≠ "java/lang/invoke/MethodHandle" ∧ yX3_determinantNow.cls ≠ "java/lang/invoke/VarHandle" ∧ (parseMethodDescriptor yX3_determinantNow.desc).map (fun d => d.parameters.length) = some 0 := by decide +kernel
set_option maxHeartbeats 4000000 in
set_option maxRecDepth 100000 in
/-- determinantNow() -/
theorem c_X3_determinantNow (l : Launch) (dd : va_G) (cy : Nat → ClassId) (ad : Nat → Nat) (X : va_W) (u : MS) (sz : Nat)  : Met l yX3_determinantNow wsX3_determinantNow ({ frames := 3, cells := 0, slots := 0, locals := 69 }) (va_Pc [.ref (ad 0)] (wrW dd cy (wM cy ad u ++ X) sz)) (va_Ql (fun r u9 => r = Int64.ofInt (det 9 (AM (u.1 1))) ∧ frS u u9 ∧ u9.2.2.2.2.1 = u.2.2.2.2.1 ∧ u9.2.2.2.2.2.2 = u.2.2.2.2.2.2) (wB dd cy (fun u9 : MS => wM cy ad u9 ++ X) (va_A (wM cy ad u ++ X) sz)) (va_A (wM cy ad u ++ X) sz)) 0 0 (va_A (wM cy ad u ++ X) sz) := by
  refine Met.ofW (cc := cX3_determinantNow) (maxL := 1) (ret := (some .long)) (by decide) rfl ?_
  intro p e s m args below meth c s₁ B hml hv
  obtain ⟨rfl, hsz, hP, hK, hD0⟩ := hv
  have hx := B.exec
  have hb := B.bytes
  have hr := B.returns
  have hts := atoms_spec (ws := wsX3_determinantNow) B.pre
  have hown : s.vm.findClass RX3 = some m.cls := findClass_of_methodNamed B.named
  have hlocks := B.notSynchronized
  subst hsz
  have hD := hD0.self (sz := s.heap.size)
  generalize hAe : va_A (wM cy ad u ++ X) s.heap.size = A at hD ⊢
  have hA : ∀ q : Nat, s.heap.size ≤ q → A q := fun q h => by rw [← hAe]; exact Or.inr h
  have hS : va_S A s.heap s.heap [] := va_S.rf
  have hl := lv_entry ([.ref (ad 0)]) (n := 1) (Nat.le_of_ble_eq_true rfl)
  rw [lg_entry_eq]
  generalize (lg_sl ([.ref (ad 0)]) ++ List.replicate (1 - (lg_sl ([.ref (ad 0)])).length) Slot.unset).toArray = ls at hl ⊢
  have hl : lv_has ls 1 [(0, .ref (ad 0))] := hl
  refine lv_aload_n hx hb dX3_determinantNow_0 rfl (lv_at hl 0 rfl) ?_
  refine wc_callv (va_runV (As := []) (rest := []) ⟨hx, hb, hml, hown, hts⟩ (c_X3_layMatrix l dd cy ad X u _ ) (cwV 0 hts gX3_determinantNow_X3_layMatrix rfl rfl rfl hd_X3_layMatrix ⟨Nat.le_of_ble_eq_true rfl, Nat.le_of_ble_eq_true rfl⟩) (wrW_V hP hK hD (wM_0 cy ad u X) rfl) rfl rfl hl.1 rfl (lv_room (Nat.le_of_ble_eq_true rfl)) dX3_determinantNow_1 ⟨Nat.le_of_ble_eq_true rfl, Nat.le_of_ble_eq_true rfl⟩) hD hS hA (fun us2 H locs w3 hP hD hS => ?_)
  obtain ⟨hfL, hmL⟩ := w3
  have hMM := lmO_M hmL
  refine lv_aload_n hx hb dX3_determinantNow_4 rfl (lv_at hl 0 rfl) ?_
  refine lv_bipush (v := nI 9) hx hb dX3_determinantNow_5 (by decide) ?_
  refine lv_bipush (v := nI 9) hx hb dX3_determinantNow_7 (by decide) ?_
  refine wc_calll (va_runV (As := [.int (nI 9), .int (nI 9)]) (rest := []) ⟨hx, hb, hml, hown, hts⟩ (c_X3_determinantWithout_9 l dd cy ad X us2 _ (AM (u.1 1)) 9 9 (by omega) hMM) (cwV 2 hts gX3_determinantNow_X3_determinantWithout rfl rfl rfl hd_X3_determinantWithout ⟨Nat.le_of_ble_eq_true rfl, Nat.le_of_ble_eq_true rfl⟩) (wrW_V hP hK hD (wM_0 cy ad us2 X) rfl) rfl rfl hl.1 rfl (lv_room (Nat.le_of_ble_eq_true rfl)) dX3_determinantNow_9 ⟨Nat.le_of_ble_eq_true rfl, Nat.le_of_ble_eq_true rfl⟩) hD hS hA (fun r4 us5 H locs w6 hP hD hS => ?_)
  obtain ⟨hfus5, er4⟩ := w6
  exact W.lret (v := r4) hx hb hr (fun t ht hW => ⟨⟨r4, us5, rfl, ⟨er4.trans (congrArg Int64.ofInt (det9_eq _ ⟨rfl, rfl⟩)), frS_tr (frJ_S hfL) (frJ_S hfus5), by rw [hfus5.2.2.1, hfL.2.2.1], by rw [hfus5.2.2.1, hfL.2.2.1]⟩, by rw [ht]; exact hP, va_K.moved hW.alike hK, hD⟩, hS.F ht⟩) hS.2.2 dX3_determinantNow_12
theorem hd_X3_solves : yX3_solves.cls = RX3 ∧ yX3_solves.cls ≠ "java/lang/invoke/MethodHandle" ∧ yX3_solves.cls ≠ "java/lang/invoke/VarHandle" ∧ (parseMethodDescriptor yX3_solves.desc).map (fun d => d.parameters.length) = some 0 := by decide +kernel
set_option maxHeartbeats 4000000 in
set_option maxRecDepth 100000 in
/-- solves() -/
theorem c_X3_solves (l : Launch) (dd : va_G) (cy : Nat → ClassId) (ad : Nat → Nat) (X : va_W) (u : MS) (sz : Nat) (hsy : lsM u = false → ∀ i, i < 9 → ∀ j, j < 9 → cof 9 (AM (u.1 1)) i j = cof 9 (AM (u.1 1)) j i) : Met l yX3_solves wsX3_solves ({ frames := 3, cells := 0, slots := 0, locals := 70 }) (va_Pc [.ref (ad 0)] (wrW dd cy (wM cy ad u ++ X) sz)) (va_Qi (fun r u9 => (lsM u = true → r = nI 0 ∧ u9 = u) ∧ (lsM u = false → r = nI 1 ∧ frS u u9 ∧ u9.2.2.2.2.1 = u.2.2.2.2.1 ∧ u9.2.2.2.2.2.2 = u.2.2.2.2.2.2 ∧ svd (u.1 1) u9)) (wB dd cy (fun u9 : MS => wM cy ad u9 ++ X) (va_A (wM cy ad u ++ X) sz)) (va_A (wM cy ad u ++ X) sz)) 0 0 (va_A (wM cy ad u ++ X) sz) := by
  refine Met.ofW (cc := cX3_solves) (maxL := 5) (ret := (some .boolean)) (by decide) rfl ?_
  intro p e s m args below meth c s₁ B hml hv
  obtain ⟨rfl, hsz, hP, hK, hD0⟩ := hv
  have hx := B.exec
  have hb := B.bytes
  have hr := B.returns
  have hts := atoms_spec (ws := wsX3_solves) B.pre
  have hown : s.vm.findClass RX3 = some m.cls := findClass_of_methodNamed B.named
  have hlocks := B.notSynchronized
  subst hsz
  have hD := hD0.self (sz := s.heap.size)
  generalize hAe : va_A (wM cy ad u ++ X) s.heap.size = A at hD ⊢
  have hA : ∀ q : Nat, s.heap.size ≤ q → A q := fun q h => by rw [← hAe]; exact Or.inr h
  have hS : va_S A s.heap s.heap [] := va_S.rf
  have hl := lv_entry ([.ref (ad 0)]) (n := 5) (Nat.le_of_ble_eq_true rfl)
  rw [lg_entry_eq]
  generalize (lg_sl ([.ref (ad 0)]) ++ List.replicate (5 - (lg_sl ([.ref (ad 0)])).length) Slot.unset).toArray = ls at hl ⊢
  have hl : lv_has ls 5 [(0, .ref (ad 0))] := hl
  refine lv_aload_n hx hb dX3_solves_0 rfl (lv_at hl 0 rfl) ?_
  refine vp_callSi (va_runV (As := []) (rest := []) ⟨hx, hb, hml, hown, hts⟩ (c_X3_isLooseNow l dd cy ad X u ) (cwV 0 hts gX3_solves_X3_isLooseNow rfl rfl rfl hd_X3_isLooseNow ⟨Nat.le_of_ble_eq_true rfl, Nat.le_of_ble_eq_true rfl⟩) (rdW_V hP hK (wM_0 cy ad u X) rfl) rfl rfl hl.1 rfl (lv_room (Nat.le_of_ble_eq_true rfl)) dX3_solves_1 ⟨Nat.le_of_ble_eq_true rfl, Nat.le_of_ble_eq_true rfl⟩).run (fun r1 hr1 => ?_)
  have hr1 : r1 = bI (lsM u) := hr1
  subst hr1
  refine lv_if_eq (tgt := 9) hx hb dX3_solves_4 (by decide) (fun cL => ?_) (fun cL => ?_)
  · have hls : lsM u = false := bI_0.mp cL
    refine lv_aload_n hx hb dX3_solves_9 rfl (lv_at hl 0 rfl) ?_
    refine wc_callv (va_runV (As := []) (rest := []) ⟨hx, hb, hml, hown, hts⟩ (c_X3_layMatrix l dd cy ad X u _ ) (cwV 0 hts gX3_solves_X3_layMatrix rfl rfl rfl hd_X3_layMatrix ⟨Nat.le_of_ble_eq_true rfl, Nat.le_of_ble_eq_true rfl⟩) (wrW_V hP hK hD (wM_0 cy ad u X) rfl) rfl rfl hl.1 rfl (lv_room (Nat.le_of_ble_eq_true rfl)) dX3_solves_10 ⟨Nat.le_of_ble_eq_true rfl, Nat.le_of_ble_eq_true rfl⟩) hD hS hA (fun us3 H locs w4 hP hD hS => ?_)
    obtain ⟨hfL, hmL⟩ := w4
    have hMM := lmO_M hmL
    refine lv_aload_n hx hb dX3_solves_13 rfl (lv_at hl 0 rfl) ?_
    refine lv_aload_n hx hb dX3_solves_14 rfl (lv_at hl 0 rfl) ?_
    refine lv_bipush (v := nI 9) hx hb dX3_solves_15 (by decide) ?_
    refine lv_bipush (v := nI 9) hx hb dX3_solves_17 (by decide) ?_
    refine wc_calll (va_runV (As := [.int (nI 9), .int (nI 9)]) (rest := [.ref (ad 0)]) ⟨hx, hb, hml, hown, hts⟩ (c_X3_determinantWithout_9 l dd cy ad X us3 _ (AM (u.1 1)) 9 9 (by omega) hMM) (cwV 2 hts gX3_solves_X3_determinantWithout rfl rfl rfl hd_X3_determinantWithout ⟨Nat.le_of_ble_eq_true rfl, Nat.le_of_ble_eq_true rfl⟩) (wrW_V hP hK hD (wM_0 cy ad us3 X) rfl) rfl rfl hl.1 rfl (lv_room (Nat.le_of_ble_eq_true rfl)) dX3_solves_19 ⟨Nat.le_of_ble_eq_true rfl, Nat.le_of_ble_eq_true rfl⟩) hD hS hA (fun r5 us6 H locs w7 hP hD hS => ?_)
    obtain ⟨hfus6, er5⟩ := w7
    refine va_put (D := dd) (ci := 5) (v := .long r5) (ty := .long) (C := RX3) (T := TX3) (N := 15) hx hb hts (fun _ h9 => List.mem_cons_of_mem _ (List.mem_append_left _ (List.mem_append_right _ h9))) tyX3 tyX3_ok nmX3 hown hK hP hD hS 0 (wM_0 cy ad us6 X) rfl 10 (by decide) (hts (Cond.fieldLink RX3 87 "HeadGridModel" "whole" "J") (List.mem_of_getElem? (i := 1) rfl)) (fun _ h9 => h9) rfl (tyX3_ok 10 (by decide)) rfl rfl (Nat.le_of_ble_eq_true rfl) dX3_solves_22 (fun H locs hP hD hS => ?_)
    have hP : va_P dd vwCl (wM cy ad (us6.1, us6.2.1, us6.2.2.1, us6.2.2.2.1, us6.2.2.2.2.1, r5, us6.2.2.2.2.2.2) ++ X) H := hP
    have hD : va_D A (wM cy ad (us6.1, us6.2.1, us6.2.2.1, us6.2.2.2.1, us6.2.2.2.2.1, r5, us6.2.2.2.2.2.2) ++ X) := hD
    obtain ⟨us8, hus8⟩ : ∃ z9z : MS, z9z = (us6.1, us6.2.1, us6.2.2.1, us6.2.2.2.1, us6.2.2.2.2.1, r5, us6.2.2.2.2.2.2) := ⟨_, rfl⟩
    rw [← hus8] at hP hD
    have pus8_1 : us8.1 = us6.1 := by rw [hus8]
    have pus8_21 : us8.2.1 = us6.2.1 := by rw [hus8]
    have pus8_221 : us8.2.2.1 = us6.2.2.1 := by rw [hus8]
    have pus8_kept : us8.2.2.2.1 = us6.2.2.2.1 := by rw [hus8]
    have pus8_thrown : us8.2.2.2.2.1 = us6.2.2.2.2.1 := by rw [hus8]
    have h_whole : r5 = us8.2.2.2.2.2.1 := by rw [hus8]
    have pus8_hash : us8.2.2.2.2.2.2 = us6.2.2.2.2.2.2 := by rw [hus8]
    refine lv_iconst (v := nI 0) hx hb dX3_solves_25 (by decide) ?_
    refine lv_istore_n (lv' := [(1, .int (nI 0)), (0, .ref (ad 0))]) hx hb dX3_solves_26 rfl hl (by decide) rfl (fun ls hl => ?_)
    obtain ⟨uL, huL⟩ : ∃ z9z, z9z = us8 := ⟨_, rfl⟩
    rw [← huL] at hP hD
    have hM5L : uL.2.2.1 5 = us3.2.2.1 5 ∧ uL.2.2.1 6 = us3.2.2.1 6 := by rw [huL, hus8]; exact ⟨hfus6.2.2.2 5 (by decide), hfus6.2.2.2 6 (by decide)⟩
    have hML : lmO (u.1 1) 9 (uL.2.2.1 5) (uL.2.2.1 6) := by rw [hM5L.1, hM5L.2]; exact hmL
    have hWL : uL.2.2.2.2.2.1 = Int64.ofInt (det 9 (AM (u.1 1))) := by rw [huL, hus8]; exact er5.trans (congrArg Int64.ofInt (det9_eq _ ⟨rfl, rfl⟩))
    have hSL : frS u uL ∧ uL.2.2.2.2.1 = u.2.2.2.2.1 ∧ uL.2.2.2.2.2.2 = u.2.2.2.2.2.2 := by rw [huL, hus8]; exact ⟨⟨hfus6.1.trans hfL.1, hfus6.2.1.trans hfL.2.1, by show us6.2.2.2.1 = _; rw [hfus6.2.2.1, hfL.2.2.1]⟩, by show us6.2.2.2.2.1 = _; rw [hfus6.2.2.1, hfL.2.2.1], by show us6.2.2.2.2.2.2 = _; rw [hfus6.2.2.1, hfL.2.2.1]⟩
    refine wLoop (σ := Nat × MS) (fun k x H locs ls => k = 9 - x.1 ∧ (x.1 ≤ 9) ∧ (frJ [5, 6, 7, 8] uL x.2) ∧ (x.2.2.2.1 5 = uL.2.2.1 5 ∧ x.2.2.2.1 6 = uL.2.2.1 6) ∧ (adI (AM (u.1 1)) x.1 0 (x.2.2.2.1 8)) ∧ va_P dd vwCl (wM cy ad x.2 ++ X) H ∧ va_D A (wM cy ad x.2 ++ X) ∧ va_S A s.heap H locs ∧ lv_has ls 5 [(1, .int (nI x.1)), (0, .ref (ad 0))]) ?_ _ (0, uL) _ _ _ ⟨rfl, (by omega), frJ_rf, ⟨rfl, rfl⟩, (fun a9 _ b9 _ q9 => by omega), hP, hD, hS, lv_sub hl [0, 1] rfl⟩
    intro ko x H locs ls hI iho
    obtain ⟨i0, u1⟩ := x
    obtain ⟨hko, hi, hF, hM5, hd8, hP, hD, hS, hl⟩ := hI
    have hko : ko = 9 - i0 := hko
    have hi : i0 ≤ 9 := hi
    have hF : frJ [5, 6, 7, 8] uL u1 := hF
    have hM5 : u1.2.2.1 5 = uL.2.2.1 5 ∧ u1.2.2.1 6 = uL.2.2.1 6 := hM5
    have hd8 : adI (AM (u.1 1)) i0 0 (u1.2.2.1 8) := hd8
    have hP : va_P dd vwCl (wM cy ad u1 ++ X) H := hP
    have hD : va_D A (wM cy ad u1 ++ X) := hD
    have hl : lv_has ls 5 [(1, .int (nI i0)), (0, .ref (ad 0))] := hl
    refine lv_iload_n hx hb dX3_solves_27 rfl (lv_at hl 0 rfl) ?_
    refine lv_bipush (v := nI 9) hx hb dX3_solves_28 (by decide) ?_
    refine wn_icmp_ge (tgt := 106) hx hb dX3_solves_30 (by decide) (by omega) (by omega) (fun c9 => ?_) (fun c9 => ?_)
    · refine lv_iconst (v := nI 0) hx hb dX3_solves_106 (by decide) ?_
      refine lv_istore_n (lv' := [(1, .int (nI 0)), (0, .ref (ad 0))]) hx hb dX3_solves_107 rfl hl (by decide) rfl (fun ls hl => ?_)
      obtain ⟨uA, huA⟩ : ∃ z9z, z9z = u1 := ⟨_, rfl⟩
      rw [← huA] at hP hD
      rw [← huA] at hF hM5 hd8
      have hFA := hF
      refine wLoop (σ := Nat × MS) (fun k x H locs ls => k = 9 - x.1 ∧ (x.1 ≤ 9) ∧ (frJ [9] uA x.2) ∧ (hdO (uA.2.2.1 8) (uA.2.2.1 6) x.1 (x.2.2.2.1 9)) ∧ va_P dd vwCl (wM cy ad x.2 ++ X) H ∧ va_D A (wM cy ad x.2 ++ X) ∧ va_S A s.heap H locs ∧ lv_has ls 5 [(1, .int (nI x.1)), (0, .ref (ad 0))]) ?_ _ (0, uA) _ _ _ ⟨rfl, (by omega), frJ_rf, (fun a9 h9 => absurd h9 (Nat.not_lt_zero a9)), hP, hD, hS, lv_sub hl [0, 1] rfl⟩
      intro ko x H locs ls hI iho
      obtain ⟨i0, u1⟩ := x
      obtain ⟨hko, hi, hF, hh, hP, hD, hS, hl⟩ := hI
      have hko : ko = 9 - i0 := hko
      have hi : i0 ≤ 9 := hi
      have hF : frJ [9] uA u1 := hF
      have hh : hdO (uA.2.2.1 8) (uA.2.2.1 6) i0 (u1.2.2.1 9) := hh
      have hP : va_P dd vwCl (wM cy ad u1 ++ X) H := hP
      have hD : va_D A (wM cy ad u1 ++ X) := hD
      have hl : lv_has ls 5 [(1, .int (nI i0)), (0, .ref (ad 0))] := hl
      refine lv_iload_n hx hb dX3_solves_108 rfl (lv_at hl 0 rfl) ?_
      refine lv_bipush (v := nI 9) hx hb dX3_solves_109 (by decide) ?_
      refine wn_icmp_ge (tgt := 168) hx hb dX3_solves_111 (by decide) (by omega) (by omega) (fun c10 => ?_) (fun c10 => ?_)
      · refine lv_iconst (v := nI 1) hx hb dX3_solves_168 (by decide) ?_
        exact W.zret (v := (nI 1)) hx hb hr rfl (fun t ht hW => ⟨⟨(nI 1), u1, rfl, ⟨fun h9 => absurd h9 (by rw [hls]; decide), fun _ => ⟨rfl, ⟨hF.1.trans (hFA.1.trans hSL.1.1), hF.2.1.trans (hFA.2.1.trans hSL.1.2.1), by rw [hF.2.2.1, hFA.2.2.1]; exact hSL.1.2.2⟩, by rw [hF.2.2.1, hFA.2.2.1]; exact hSL.2.1, by rw [hF.2.2.1, hFA.2.2.1]; exact hSL.2.2, by rw [hF.2.2.1, hFA.2.2.1]; exact hWL, fun a9 ha9 b9 hb9 => by rw [hF.2.2.2 8 (by decide)]; exact hd8 a9 ha9 b9 hb9 (by omega), fun a9 ha9 => by rw [hh a9 (by omega)]; exact smL_congr (fun b9 hb9 => by rw [hd8 a9 ha9 b9 hb9 (by omega), hM5.2, hML.2 b9 hb9])⟩⟩, by rw [ht]; exact hP, va_K.moved hW.alike hK, hD⟩, hS.F ht⟩) hS.2.2 dX3_solves_169
      · refine lv_aload_n hx hb dX3_solves_114 rfl (lv_at hl 1 rfl) ?_
        refine va_get (D := dd) (ci := 5) (v := .ref (ad 9)) (C := RX3) (T := TX3) (N := 15) hx hb hts (fun _ h9 => List.mem_cons_of_mem _ (List.mem_append_left _ (List.mem_append_right _ h9))) hown hK hP 0 (wM_0 cy ad u1 X) rfl 11 (by decide) (hts (Cond.fieldLink RX3 36 "HeadGridModel" "heads" "[J") (List.mem_of_getElem? (i := 3) rfl)) (fun _ h9 => h9) rfl dX3_solves_115 ?_
        refine lv_iload_n hx hb dX3_solves_118 rfl (lv_at hl 0 rfl) ?_
        refine lv_lconst (v := 0) hx hb dX3_solves_119 rfl ?_
        refine wa_last hx hb hK hP hD hS (wM_9 cy ad u1 X) (t0 := 1) rfl (i := i0) (by omega) (by decide) dX3_solves_120 (wM_s9 cy ad u1 X _) (fun H locs hP hD hS => ?_)
        obtain ⟨us11, hus11⟩ : ∃ z9z : MS, z9z = (u1.1, u1.2.1, va_up u1.2.2.1 9 (vp_updL (u1.2.2.1 9) i0 0), u1.2.2.2) := ⟨_, rfl⟩
        rw [← hus11] at hP hD
        have pus11_s : us11.2.2.1 9 = (vp_updL (u1.2.2.1 9) i0 0) := by rw [hus11]; rfl
        have pus11_o : ∀ j9, j9 ≠ 9 → us11.2.2.1 j9 = u1.2.2.1 j9 := fun j9 h9 => by rw [hus11]; exact va_up_n h9
        have pus11_1 : us11.1 = u1.1 := by rw [hus11]
        have pus11_21 : us11.2.1 = u1.2.1 := by rw [hus11]
        have pus11_222 : us11.2.2.2 = u1.2.2.2 := by rw [hus11]
        refine lv_iconst (v := nI 0) hx hb dX3_solves_121 (by decide) ?_
        refine lv_istore_n (lv' := [(2, .int (nI 0)), (1, .int (nI i0)), (0, .ref (ad 0))]) hx hb dX3_solves_122 rfl hl (by decide) rfl (fun ls hl => ?_)
        refine wLoop (σ := Nat × MS) (fun k x H locs ls => k = 9 - x.1 ∧ (x.1 ≤ 9) ∧ (frJ [9] uA x.2) ∧ (hdI (uA.2.2.1 8) (uA.2.2.1 6) i0 x.1 (x.2.2.2.1 9)) ∧ va_P dd vwCl (wM cy ad x.2 ++ X) H ∧ va_D A (wM cy ad x.2 ++ X) ∧ va_S A s.heap H locs ∧ lv_has ls 5 [(2, .int (nI x.1)), (1, .int (nI i0)), (0, .ref (ad 0))]) ?_ _ (0, us11) _ _ _ ⟨rfl, (by omega), (frJ_set hF (by decide) hus11), (by rw [pus11_s]; exact hdI_0 hh), hP, hD, hS, lv_sub hl [0, 1, 2] rfl⟩
        intro ki x H locs ls hI ihi
        obtain ⟨j0, u2⟩ := x
        obtain ⟨hki, hj, hF, hh, hP, hD, hS, hl⟩ := hI
        have hki : ki = 9 - j0 := hki
        have hj : j0 ≤ 9 := hj
        have hF : frJ [9] uA u2 := hF
        have hh : hdI (uA.2.2.1 8) (uA.2.2.1 6) i0 j0 (u2.2.2.1 9) := hh
        have hP : va_P dd vwCl (wM cy ad u2 ++ X) H := hP
        have hD : va_D A (wM cy ad u2 ++ X) := hD
        have hl : lv_has ls 5 [(2, .int (nI j0)), (1, .int (nI i0)), (0, .ref (ad 0))] := hl
        refine lv_iload_n hx hb dX3_solves_123 rfl (lv_at hl 0 rfl) ?_
        refine lv_bipush (v := nI 9) hx hb dX3_solves_124 (by decide) ?_
        refine wn_icmp_ge (tgt := 162) hx hb dX3_solves_126 (by decide) (by omega) (by omega) (fun c12 => ?_) (fun c12 => ?_)
        · refine lv_iinc (v := (nI (i0 + 1))) (lv' := [(1, .int (nI (i0 + 1))), (2, .int (nI j0)), (0, .ref (ad 0))]) hx hb dX3_solves_162 hl (k := 1) rfl (nI_1 _) (by decide) rfl (fun ls hl => ?_)
          refine lv_goto (tgt := 108) hx hb dX3_solves_165 (by decide) ?_
          exact iho (9 - (i0 + 1)) (i0 + 1, u2) _ _ ls (by omega) ⟨rfl, (by omega), hF, (hdI_n (by rw [show j0 = 9 by omega] at hh; exact hh)), hP, hD, hS, lv_sub hl [0, 2] rfl⟩
        · refine lv_aload_n hx hb dX3_solves_129 rfl (lv_at hl 2 rfl) ?_
          refine va_get (D := dd) (ci := 5) (v := .ref (ad 9)) (C := RX3) (T := TX3) (N := 15) hx hb hts (fun _ h9 => List.mem_cons_of_mem _ (List.mem_append_left _ (List.mem_append_right _ h9))) hown hK hP 0 (wM_0 cy ad u2 X) rfl 11 (by decide) (hts (Cond.fieldLink RX3 36 "HeadGridModel" "heads" "[J") (List.mem_of_getElem? (i := 3) rfl)) (fun _ h9 => h9) rfl dX3_solves_130 ?_
          refine lv_iload_n hx hb dX3_solves_133 rfl (lv_at hl 1 rfl) ?_
          refine lv_dup2_11 hx hb dX3_solves_134 rfl rfl ?_
          refine wa_lald hx hb hK hP (wM_9 cy ad u2 X) (t0 := 1) rfl (i := i0) (by omega) (by decide) dX3_solves_135 ?_
          refine lv_aload_n hx hb dX3_solves_136 rfl (lv_at hl 2 rfl) ?_
          refine va_get (D := dd) (ci := 5) (v := .ref (ad 8)) (C := RX3) (T := TX3) (N := 15) hx hb hts (fun _ h9 => List.mem_cons_of_mem _ (List.mem_append_left _ (List.mem_append_right _ h9))) hown hK hP 0 (wM_0 cy ad u2 X) rfl 9 (by decide) (hts (Cond.fieldLink RX3 33 "HeadGridModel" "adjugate" "[J") (List.mem_of_getElem? (i := 2) rfl)) (fun _ h9 => h9) rfl dX3_solves_137 ?_
          refine lv_bipush (v := nI 9) hx hb dX3_solves_140 (by decide) ?_
          refine lv_iload_n hx hb dX3_solves_142 rfl (lv_at hl 1 rfl) ?_
          refine wn_imul hx hb dX3_solves_143 ?_
          refine lv_iload_n hx hb dX3_solves_144 rfl (lv_at hl 0 rfl) ?_
          refine wn_iadd hx hb dX3_solves_145 ?_
          refine wa_lald hx hb hK hP (wM_8 cy ad u2 X) (t0 := 1) rfl (i := (9 * i0) + j0) (by omega) (by decide) dX3_solves_146 ?_
          refine lv_aload_n hx hb dX3_solves_147 rfl (lv_at hl 2 rfl) ?_
          refine va_get (D := dd) (ci := 5) (v := .ref (ad 6)) (C := RX3) (T := TX3) (N := 15) hx hb hts (fun _ h9 => List.mem_cons_of_mem _ (List.mem_append_left _ (List.mem_append_right _ h9))) hown hK hP 0 (wM_0 cy ad u2 X) rfl 7 (by decide) (hts (Cond.fieldLink RX3 27 "HeadGridModel" "right" "[J") (List.mem_of_getElem? (i := 4) rfl)) (fun _ h9 => h9) rfl dX3_solves_148 ?_
          refine lv_iload_n hx hb dX3_solves_151 rfl (lv_at hl 0 rfl) ?_
          refine wa_lald hx hb hK hP (wM_6 cy ad u2 X) (t0 := 1) rfl (i := j0) (by omega) (by decide) dX3_solves_152 ?_
          refine lv_lmul hx hb dX3_solves_153 ?_
          refine lv_ladd hx hb dX3_solves_154 ?_
          refine lv_topl (fun x13 ex13 => ?_)
          refine wa_last hx hb hK hP hD hS (wM_9 cy ad u2 X) (t0 := 1) rfl (i := i0) (by omega) (by decide) dX3_solves_155 (wM_s9 cy ad u2 X _) (fun H locs hP hD hS => ?_)
          obtain ⟨us14, hus14⟩ : ∃ z9z : MS, z9z = (u2.1, u2.2.1, va_up u2.2.2.1 9 (vp_updL (u2.2.2.1 9) i0 x13), u2.2.2.2) := ⟨_, rfl⟩
          rw [← hus14] at hP hD
          have pus14_s : us14.2.2.1 9 = (vp_updL (u2.2.2.1 9) i0 x13) := by rw [hus14]; rfl
          have pus14_o : ∀ j9, j9 ≠ 9 → us14.2.2.1 j9 = u2.2.2.1 j9 := fun j9 h9 => by rw [hus14]; exact va_up_n h9
          have pus14_1 : us14.1 = u2.1 := by rw [hus14]
          have pus14_21 : us14.2.1 = u2.2.1 := by rw [hus14]
          have pus14_222 : us14.2.2.2 = u2.2.2.2 := by rw [hus14]
          refine lv_iinc (v := (nI (j0 + 1))) (lv' := [(2, .int (nI (j0 + 1))), (1, .int (nI i0)), (0, .ref (ad 0))]) hx hb dX3_solves_156 hl (k := 0) rfl (nI_1 _) (by decide) rfl (fun ls hl => ?_)
          refine lv_goto (tgt := 123) hx hb dX3_solves_159 (by decide) ?_
          exact ihi (9 - (j0 + 1)) (j0 + 1, us14) _ _ ls (by omega) ⟨rfl, (by omega), (frJ_set hF (by decide) hus14), (by rw [pus14_s, ex13, hF.2.2.2 8 (by decide), hF.2.2.2 6 (by decide)]; exact hdI_s hh), hP, hD, hS, lv_sub hl [0, 1, 2] rfl⟩
    · refine lv_iconst (v := nI 0) hx hb dX3_solves_33 (by decide) ?_
      refine lv_istore_n (lv' := [(2, .int (nI 0)), (1, .int (nI i0)), (0, .ref (ad 0))]) hx hb dX3_solves_34 rfl hl (by decide) rfl (fun ls hl => ?_)
      refine wLoop (σ := Nat × MS) (fun k x H locs ls => k = i0 + 1 - x.1 ∧ (x.1 ≤ i0 + 1) ∧ (frJ [5, 6, 7, 8] uL x.2) ∧ (x.2.2.2.1 5 = uL.2.2.1 5 ∧ x.2.2.2.1 6 = uL.2.2.1 6) ∧ (adI (AM (u.1 1)) i0 x.1 (x.2.2.2.1 8)) ∧ va_P dd vwCl (wM cy ad x.2 ++ X) H ∧ va_D A (wM cy ad x.2 ++ X) ∧ va_S A s.heap H locs ∧ lv_has ls 5 [(2, .int (nI x.1)), (1, .int (nI i0)), (0, .ref (ad 0))]) ?_ _ (0, u1) _ _ _ ⟨rfl, (by omega), hF, hM5, hd8, hP, hD, hS, lv_sub hl [0, 1, 2] rfl⟩
      intro ki x H locs ls hI ihi
      obtain ⟨j0, u2⟩ := x
      obtain ⟨hki, hj, hF, hM5, hd8, hP, hD, hS, hl⟩ := hI
      have hki : ki = i0 + 1 - j0 := hki
      have hj : j0 ≤ i0 + 1 := hj
      have hF : frJ [5, 6, 7, 8] uL u2 := hF
      have hM5 : u2.2.2.1 5 = uL.2.2.1 5 ∧ u2.2.2.1 6 = uL.2.2.1 6 := hM5
      have hd8 : adI (AM (u.1 1)) i0 j0 (u2.2.2.1 8) := hd8
      have hP : va_P dd vwCl (wM cy ad u2 ++ X) H := hP
      have hD : va_D A (wM cy ad u2 ++ X) := hD
      have hl : lv_has ls 5 [(2, .int (nI j0)), (1, .int (nI i0)), (0, .ref (ad 0))] := hl
      refine lv_iload_n hx hb dX3_solves_35 rfl (lv_at hl 0 rfl) ?_
      refine lv_iload_n hx hb dX3_solves_36 rfl (lv_at hl 1 rfl) ?_
      refine wn_icmp_gt (tgt := 100) hx hb dX3_solves_37 (by decide) (by omega) (by omega) (fun c15 => ?_) (fun c15 => ?_)
      · refine lv_iinc (v := (nI (i0 + 1))) (lv' := [(1, .int (nI (i0 + 1))), (2, .int (nI j0)), (0, .ref (ad 0))]) hx hb dX3_solves_100 hl (k := 1) rfl (nI_1 _) (by decide) rfl (fun ls hl => ?_)
        refine lv_goto (tgt := 27) hx hb dX3_solves_103 (by decide) ?_
        exact iho (9 - (i0 + 1)) (i0 + 1, u2) _ _ ls (by omega) ⟨rfl, (by omega), hF, hM5, (adI_next hd8 (by omega)), hP, hD, hS, lv_sub hl [0, 2] rfl⟩
      · refine lv_aload_n hx hb dX3_solves_40 rfl (lv_at hl 2 rfl) ?_
        refine lv_iload_n hx hb dX3_solves_41 rfl (lv_at hl 1 rfl) ?_
        refine lv_iload_n hx hb dX3_solves_42 rfl (lv_at hl 0 rfl) ?_
        refine wc_calll (va_runV (As := [.int (nI i0), .int (nI j0)]) (rest := []) ⟨hx, hb, hml, hown, hts⟩ (c_X3_determinantWithout_8 l dd cy ad X u2 _ (AM (u.1 1)) i0 j0 (by omega) (by rw [hM5.1]; exact lmO_M hML)) (cwV 2 hts gX3_solves_X3_determinantWithout rfl rfl rfl hd_X3_determinantWithout ⟨Nat.le_of_ble_eq_true rfl, Nat.le_of_ble_eq_true rfl⟩) (wrW_V hP hK hD (wM_0 cy ad u2 X) rfl) rfl rfl hl.1 rfl (lv_room (Nat.le_of_ble_eq_true rfl)) dX3_solves_43 ⟨Nat.le_of_ble_eq_true rfl, Nat.le_of_ble_eq_true rfl⟩) hD hS hA (fun r16 us17 H locs w18 hP hD hS => ?_)
        obtain ⟨hfus17, er16⟩ := w18
        refine lv_lstore_n (lv' := [(3, .long r16), (2, .int (nI j0)), (1, .int (nI i0)), (0, .ref (ad 0))]) hx hb dX3_solves_46 rfl hl (by decide) rfl (fun ls hl => ?_)
        refine lv_aload_n hx hb dX3_solves_47 rfl (lv_at hl 3 rfl) ?_
        refine va_get (D := dd) (ci := 5) (v := .ref (ad 8)) (C := RX3) (T := TX3) (N := 15) hx hb hts (fun _ h9 => List.mem_cons_of_mem _ (List.mem_append_left _ (List.mem_append_right _ h9))) hown hK hP 0 (wM_0 cy ad us17 X) rfl 9 (by decide) (hts (Cond.fieldLink RX3 33 "HeadGridModel" "adjugate" "[J") (List.mem_of_getElem? (i := 2) rfl)) (fun _ h9 => h9) rfl dX3_solves_48 ?_
        refine lv_bipush (v := nI 9) hx hb dX3_solves_51 (by decide) ?_
        refine lv_iload_n hx hb dX3_solves_53 rfl (lv_at hl 2 rfl) ?_
        refine wn_imul hx hb dX3_solves_54 ?_
        refine lv_iload_n hx hb dX3_solves_55 rfl (lv_at hl 1 rfl) ?_
        refine wn_iadd hx hb dX3_solves_56 ?_
        refine lv_iload_n hx hb dX3_solves_57 rfl (lv_at hl 2 rfl) ?_
        refine lv_iload_n hx hb dX3_solves_58 rfl (lv_at hl 1 rfl) ?_
        refine wn_iadd hx hb dX3_solves_59 ?_
        refine lv_iconst (v := nI 2) hx hb dX3_solves_60 (by decide) ?_
        refine wn_irem hx hb dX3_solves_61 (by omega) (by omega) (by omega) ?_
        refine wn_if_ne (tgt := 69) hx hb dX3_solves_62 (by decide) (by omega) (fun cP => ?_) (fun cP => ?_)
        · refine lv_lload_n hx hb dX3_solves_69 rfl (lv_at hl 0 rfl) ?_
          refine lv_lneg hx hb dX3_solves_70 ?_
          refine lv_topl (fun x19 ex19 => ?_)
          refine wa_last hx hb hK hP hD hS (wM_8 cy ad us17 X) (t0 := 1) rfl (i := (9 * i0) + j0) (by omega) (by decide) dX3_solves_71 (wM_s8 cy ad us17 X _) (fun H locs hP hD hS => ?_)
          obtain ⟨us20, hus20⟩ : ∃ z9z : MS, z9z = (us17.1, us17.2.1, va_up us17.2.2.1 8 (vp_updL (us17.2.2.1 8) ((9 * i0) + j0) x19), us17.2.2.2) := ⟨_, rfl⟩
          rw [← hus20] at hP hD
          have pus20_s : us20.2.2.1 8 = (vp_updL (us17.2.2.1 8) ((9 * i0) + j0) x19) := by rw [hus20]; rfl
          have pus20_o : ∀ j9, j9 ≠ 8 → us20.2.2.1 j9 = us17.2.2.1 j9 := fun j9 h9 => by rw [hus20]; exact va_up_n h9
          have pus20_1 : us20.1 = us17.1 := by rw [hus20]
          have pus20_21 : us20.2.1 = us17.2.1 := by rw [hus20]
          have pus20_222 : us20.2.2.2 = us17.2.2.2 := by rw [hus20]
          refine lv_aload_n hx hb dX3_solves_72 rfl (lv_at hl 3 rfl) ?_
          refine va_get (D := dd) (ci := 5) (v := .ref (ad 8)) (C := RX3) (T := TX3) (N := 15) hx hb hts (fun _ h9 => List.mem_cons_of_mem _ (List.mem_append_left _ (List.mem_append_right _ h9))) hown hK hP 0 (wM_0 cy ad us20 X) rfl 9 (by decide) (hts (Cond.fieldLink RX3 33 "HeadGridModel" "adjugate" "[J") (List.mem_of_getElem? (i := 2) rfl)) (fun _ h9 => h9) rfl dX3_solves_73 ?_
          refine lv_bipush (v := nI 9) hx hb dX3_solves_76 (by decide) ?_
          refine lv_iload_n hx hb dX3_solves_78 rfl (lv_at hl 1 rfl) ?_
          refine wn_imul hx hb dX3_solves_79 ?_
          refine lv_iload_n hx hb dX3_solves_80 rfl (lv_at hl 2 rfl) ?_
          refine wn_iadd hx hb dX3_solves_81 ?_
          refine lv_aload_n hx hb dX3_solves_82 rfl (lv_at hl 3 rfl) ?_
          refine va_get (D := dd) (ci := 5) (v := .ref (ad 8)) (C := RX3) (T := TX3) (N := 15) hx hb hts (fun _ h9 => List.mem_cons_of_mem _ (List.mem_append_left _ (List.mem_append_right _ h9))) hown hK hP 0 (wM_0 cy ad us20 X) rfl 9 (by decide) (hts (Cond.fieldLink RX3 33 "HeadGridModel" "adjugate" "[J") (List.mem_of_getElem? (i := 2) rfl)) (fun _ h9 => h9) rfl dX3_solves_83 ?_
          refine lv_bipush (v := nI 9) hx hb dX3_solves_86 (by decide) ?_
          refine lv_iload_n hx hb dX3_solves_88 rfl (lv_at hl 2 rfl) ?_
          refine wn_imul hx hb dX3_solves_89 ?_
          refine lv_iload_n hx hb dX3_solves_90 rfl (lv_at hl 1 rfl) ?_
          refine wn_iadd hx hb dX3_solves_91 ?_
          refine wa_lald hx hb hK hP (wM_8 cy ad us20 X) (t0 := 1) rfl (i := (9 * i0) + j0) (by omega) (by decide) dX3_solves_92 ?_
          refine lv_topl (fun x21 ex21 => ?_)
          refine wa_last hx hb hK hP hD hS (wM_8 cy ad us20 X) (t0 := 1) rfl (i := (9 * j0) + i0) (by omega) (by decide) dX3_solves_93 (wM_s8 cy ad us20 X _) (fun H locs hP hD hS => ?_)
          obtain ⟨us22, hus22⟩ : ∃ z9z : MS, z9z = (us20.1, us20.2.1, va_up us20.2.2.1 8 (vp_updL (us20.2.2.1 8) ((9 * j0) + i0) x21), us20.2.2.2) := ⟨_, rfl⟩
          rw [← hus22] at hP hD
          have pus22_s : us22.2.2.1 8 = (vp_updL (us20.2.2.1 8) ((9 * j0) + i0) x21) := by rw [hus22]; rfl
          have pus22_o : ∀ j9, j9 ≠ 8 → us22.2.2.1 j9 = us20.2.2.1 j9 := fun j9 h9 => by rw [hus22]; exact va_up_n h9
          have pus22_1 : us22.1 = us20.1 := by rw [hus22]
          have pus22_21 : us22.2.1 = us20.2.1 := by rw [hus22]
          have pus22_222 : us22.2.2.2 = us20.2.2.2 := by rw [hus22]
          refine lv_iinc (v := (nI (j0 + 1))) (lv' := [(2, .int (nI (j0 + 1))), (3, .long r16), (1, .int (nI i0)), (0, .ref (ad 0))]) hx hb dX3_solves_94 hl (k := 1) rfl (nI_1 _) (by decide) rfl (fun ls hl => ?_)
          refine lv_goto (tgt := 35) hx hb dX3_solves_97 (by decide) ?_
          exact ihi (i0 + 1 - (j0 + 1)) (j0 + 1, us22) _ _ ls (by omega) ⟨rfl, (by omega), (frJ_set (frJ_set (frJ_tr hF (frJ_mono hfus17 (by decide))) (by decide) hus20) (by decide) hus22), ⟨by rw [pus22_o 5 (by decide), pus20_o 5 (by decide), hfus17.2.2.2 5 (by decide)]; exact hM5.1, by rw [pus22_o 6 (by decide), pus20_o 6 (by decide), hfus17.2.2.2 6 (by decide)]; exact hM5.2⟩, (by rw [pus22_s, ex21, pus20_s, show vp_updL (us17.2.2.1 8) (9 * i0 + j0) x19 (9 * i0 + j0) = x19 from if_pos rfl, hfus17.2.2.2 8 (by decide)]; exact adI_step hd8 (by omega) (by omega) (hsy hls i0 (by omega) j0 (by omega)) (by rw [ex19, er16]; exact (cof_sgn (by omega) (by omega)).2 cP)), hP, hD, hS, lv_sub hl [0, 2, 3] rfl⟩
        · refine lv_lload_n hx hb dX3_solves_65 rfl (lv_at hl 0 rfl) ?_
          refine lv_goto (tgt := 71) hx hb dX3_solves_66 (by decide) ?_
          refine wa_last hx hb hK hP hD hS (wM_8 cy ad us17 X) (t0 := 1) rfl (i := (9 * i0) + j0) (by omega) (by decide) dX3_solves_71 (wM_s8 cy ad us17 X _) (fun H locs hP hD hS => ?_)
          obtain ⟨us23, hus23⟩ : ∃ z9z : MS, z9z = (us17.1, us17.2.1, va_up us17.2.2.1 8 (vp_updL (us17.2.2.1 8) ((9 * i0) + j0) r16), us17.2.2.2) := ⟨_, rfl⟩
          rw [← hus23] at hP hD
          have pus23_s : us23.2.2.1 8 = (vp_updL (us17.2.2.1 8) ((9 * i0) + j0) r16) := by rw [hus23]; rfl
          have pus23_o : ∀ j9, j9 ≠ 8 → us23.2.2.1 j9 = us17.2.2.1 j9 := fun j9 h9 => by rw [hus23]; exact va_up_n h9
          have pus23_1 : us23.1 = us17.1 := by rw [hus23]
          have pus23_21 : us23.2.1 = us17.2.1 := by rw [hus23]
          have pus23_222 : us23.2.2.2 = us17.2.2.2 := by rw [hus23]
          refine lv_aload_n hx hb dX3_solves_72 rfl (lv_at hl 3 rfl) ?_
          refine va_get (D := dd) (ci := 5) (v := .ref (ad 8)) (C := RX3) (T := TX3) (N := 15) hx hb hts (fun _ h9 => List.mem_cons_of_mem _ (List.mem_append_left _ (List.mem_append_right _ h9))) hown hK hP 0 (wM_0 cy ad us23 X) rfl 9 (by decide) (hts (Cond.fieldLink RX3 33 "HeadGridModel" "adjugate" "[J") (List.mem_of_getElem? (i := 2) rfl)) (fun _ h9 => h9) rfl dX3_solves_73 ?_
          refine lv_bipush (v := nI 9) hx hb dX3_solves_76 (by decide) ?_
          refine lv_iload_n hx hb dX3_solves_78 rfl (lv_at hl 1 rfl) ?_
          refine wn_imul hx hb dX3_solves_79 ?_
          refine lv_iload_n hx hb dX3_solves_80 rfl (lv_at hl 2 rfl) ?_
          refine wn_iadd hx hb dX3_solves_81 ?_
          refine lv_aload_n hx hb dX3_solves_82 rfl (lv_at hl 3 rfl) ?_
          refine va_get (D := dd) (ci := 5) (v := .ref (ad 8)) (C := RX3) (T := TX3) (N := 15) hx hb hts (fun _ h9 => List.mem_cons_of_mem _ (List.mem_append_left _ (List.mem_append_right _ h9))) hown hK hP 0 (wM_0 cy ad us23 X) rfl 9 (by decide) (hts (Cond.fieldLink RX3 33 "HeadGridModel" "adjugate" "[J") (List.mem_of_getElem? (i := 2) rfl)) (fun _ h9 => h9) rfl dX3_solves_83 ?_
          refine lv_bipush (v := nI 9) hx hb dX3_solves_86 (by decide) ?_
          refine lv_iload_n hx hb dX3_solves_88 rfl (lv_at hl 2 rfl) ?_
          refine wn_imul hx hb dX3_solves_89 ?_
          refine lv_iload_n hx hb dX3_solves_90 rfl (lv_at hl 1 rfl) ?_
          refine wn_iadd hx hb dX3_solves_91 ?_
          refine wa_lald hx hb hK hP (wM_8 cy ad us23 X) (t0 := 1) rfl (i := (9 * i0) + j0) (by omega) (by decide) dX3_solves_92 ?_
          refine lv_topl (fun x24 ex24 => ?_)
          refine wa_last hx hb hK hP hD hS (wM_8 cy ad us23 X) (t0 := 1) rfl (i := (9 * j0) + i0) (by omega) (by decide) dX3_solves_93 (wM_s8 cy ad us23 X _) (fun H locs hP hD hS => ?_)
          obtain ⟨us25, hus25⟩ : ∃ z9z : MS, z9z = (us23.1, us23.2.1, va_up us23.2.2.1 8 (vp_updL (us23.2.2.1 8) ((9 * j0) + i0) x24), us23.2.2.2) := ⟨_, rfl⟩
          rw [← hus25] at hP hD
          have pus25_s : us25.2.2.1 8 = (vp_updL (us23.2.2.1 8) ((9 * j0) + i0) x24) := by rw [hus25]; rfl
          have pus25_o : ∀ j9, j9 ≠ 8 → us25.2.2.1 j9 = us23.2.2.1 j9 := fun j9 h9 => by rw [hus25]; exact va_up_n h9
          have pus25_1 : us25.1 = us23.1 := by rw [hus25]
          have pus25_21 : us25.2.1 = us23.2.1 := by rw [hus25]
          have pus25_222 : us25.2.2.2 = us23.2.2.2 := by rw [hus25]
          refine lv_iinc (v := (nI (j0 + 1))) (lv' := [(2, .int (nI (j0 + 1))), (3, .long r16), (1, .int (nI i0)), (0, .ref (ad 0))]) hx hb dX3_solves_94 hl (k := 1) rfl (nI_1 _) (by decide) rfl (fun ls hl => ?_)
          refine lv_goto (tgt := 35) hx hb dX3_solves_97 (by decide) ?_
          exact ihi (i0 + 1 - (j0 + 1)) (j0 + 1, us25) _ _ ls (by omega) ⟨rfl, (by omega), (frJ_set (frJ_set (frJ_tr hF (frJ_mono hfus17 (by decide))) (by decide) hus23) (by decide) hus25), ⟨by rw [pus25_o 5 (by decide), pus23_o 5 (by decide), hfus17.2.2.2 5 (by decide)]; exact hM5.1, by rw [pus25_o 6 (by decide), pus23_o 6 (by decide), hfus17.2.2.2 6 (by decide)]; exact hM5.2⟩, (by rw [pus25_s, ex24, pus23_s, show vp_updL (us17.2.2.1 8) (9 * i0 + j0) r16 (9 * i0 + j0) = r16 from if_pos rfl, hfus17.2.2.2 8 (by decide)]; exact adI_step hd8 (by omega) (by omega) (hsy hls i0 (by omega) j0 (by omega)) (by rw [er16]; exact (cof_sgn (by omega) (by omega)).1 cP)), hP, hD, hS, lv_sub hl [0, 2, 3] rfl⟩
  · refine lv_iconst (v := nI 0) hx hb dX3_solves_7 (by decide) ?_
    exact W.zret (v := (nI 0)) hx hb hr rfl (fun t ht hW => ⟨⟨(nI 0), u, rfl, ⟨fun _ => ⟨rfl, rfl⟩, fun h9 => absurd h9 (by rw [bI_n0.mp cL]; decide)⟩, by rw [ht]; exact hP, va_K.moved hW.alike hK, hD⟩, hS.F ht⟩) hS.2.2 dX3_solves_8

/-! the reference: saved states, settings -/
/-- all but one row of ints (of doubles) is as it was -/
def frI (k0 : Nat) (u u1 : MS) : Prop := (∀ k, k ≠ k0 → u1.1 k = u.1 k) ∧ u1.2 = u.2
def frD (k0 : Nat) (u u1 : MS) : Prop := u1.1 = u.1 ∧ (∀ k, k ≠ k0 → u1.2.1 k = u.2.1 k) ∧ u1.2.2 = u.2.2
theorem frI_rf {k : Nat} {u : MS} : frI k u u := ⟨fun _ _ => rfl, rfl⟩
theorem frD_rf {k : Nat} {u : MS} : frD k u u := ⟨rfl, fun _ _ => rfl, rfl⟩
theorem frI_set {k : Nat} {u u1 u2 : MS} {g : Nat → Int32} (h : frI k u u1) (e : u2 = (va_up u1.1 k g, u1.2)) : frI k u u2 := by
  subst e
  exact ⟨fun j hj => (va_up_n hj).trans (h.1 j hj), h.2⟩
theorem frD_set {k : Nat} {u u1 u2 : MS} {g : Nat → UInt64} (h : frD k u u1) (e : u2 = (u1.1, va_up u1.2.1 k g, u1.2.2)) : frD k u u2 := by
  subst e
  exact ⟨h.1, fun j hj => (va_up_n hj).trans (h.2.1 j hj), h.2.2⟩
def kpM (n : Nat) : Nat := if n = 4 then 3 else n
def kpD (n : Nat) : Nat := if n = 4 then 1 else 0
/-- the row of saved states when the state u has been saved -/
def svP (n : Nat) (u u9 : MS) : Prop := u9.2.2.2.1 = nI (kpM n + 1) ∧ (∀ i, i < kpM n → ∀ j, j < 72 → u9.1 3 (72 * i + j) = u.1 3 (72 * (i + kpD n) + j)) ∧ (∀ j, j < 72 → u9.1 3 (72 * kpM n + j) = u.1 1 j) ∧ (∀ i, i < kpM n → ∀ j, j < 9 → u9.2.1 4 (9 * i + j) = u.2.1 4 (9 * (i + kpD n) + j)) ∧ ∀ j, j < 9 → u9.2.1 4 (9 * kpM n + j) = u.2.1 2 j
def shI (f g : Nat → Int32) (d j : Nat) : Prop := (∀ i, i < j → g i = f (i + d)) ∧ ∀ i, j ≤ i → g i = f i
def shD (f g : Nat → UInt64) (d j : Nat) : Prop := (∀ i, i < j → g i = f (i + d)) ∧ ∀ i, j ≤ i → g i = f i
theorem shI_s {f g : Nat → Int32} {d j : Nat} (hd : 0 < d) (h : shI f g d j) : shI f (upd g j (g (j + d))) d (j + 1) := by
  refine ⟨fun i hi => ?_, fun i hi => ?_⟩
  · by_cases e : i = j
    · subst e; rw [pk_us, h.2 _ (by omega)]
    · rw [pk_un e]; exact h.1 i (by omega)
  · rw [pk_un (by omega)]; exact h.2 i (by omega)
theorem vf_s {f : Nat → UInt64} {k : Nat} {x : UInt64} : vf_upd f k x k = x := if_pos rfl
theorem vf_n {f : Nat → UInt64} {k j : Nat} {x : UInt64} (h : j ≠ k) : vf_upd f k x j = f j := if_neg h
theorem shD_s {f g : Nat → UInt64} {d j : Nat} (hd : 0 < d) (h : shD f g d j) : shD f (vf_upd g j (g (j + d))) d (j + 1) := by
  refine ⟨fun i hi => ?_, fun i hi => ?_⟩
  · by_cases e : i = j
    · subst e; rw [vf_s, h.2 _ (by omega)]
    · rw [vf_n e]; exact h.1 i (by omega)
  · rw [vf_n (by omega)]; exact h.2 i (by omega)
def cpI (f src g : Nat → Int32) (o j : Nat) : Prop := (∀ i, i < j → g (o + i) = src i) ∧ ∀ i, (i < o ∨ o + j ≤ i) → g i = f i
def cpD (f src g : Nat → UInt64) (o j : Nat) : Prop := (∀ i, i < j → g (o + i) = src i) ∧ ∀ i, (i < o ∨ o + j ≤ i) → g i = f i
theorem cpI_s {f src g : Nat → Int32} {o j : Nat} (h : cpI f src g o j) : cpI f src (upd g (o + j) (src j)) o (j + 1) := by
  refine ⟨fun i hi => ?_, fun i hi => ?_⟩
  · by_cases e : i = j
    · subst e; rw [pk_us]
    · rw [pk_un (by omega)]; exact h.1 i (by omega)
  · rw [pk_un (by omega)]; exact h.2 i (by omega)
theorem cpD_s {f src g : Nat → UInt64} {o j : Nat} (h : cpD f src g o j) : cpD f src (vf_upd g (o + j) (src j)) o (j + 1) := by
  refine ⟨fun i hi => ?_, fun i hi => ?_⟩
  · by_cases e : i = j
    · subst e; rw [vf_s]
    · rw [vf_n (by omega)]; exact h.1 i (by omega)
  · rw [vf_n (by omega)]; exact h.2 i (by omega)
theorem hd_X3_keep : yX3_keep.cls = RX3 ∧ yX3_keep.cls ≠ "java/lang/invoke/MethodHandle" ∧ yX3_keep.cls ≠ "java/lang/invoke/VarHandle" ∧ (parseMethodDescriptor yX3_keep.desc).map (fun d => d.parameters.length) = some 0 := by decide +kernel
set_option maxHeartbeats 4000000 in
set_option maxRecDepth 100000 in
/-- keep() -/
theorem c_X3_keep (l : Launch) (dd : va_G) (cy : Nat → ClassId) (ad : Nat → Nat) (X : va_W) (u : MS) (sz : Nat) (n : Nat) (hn : n ≤ 4) (h_kept : nI n = u.2.2.2.1) : Met l yX3_keep wsX3_keep ({ frames := 0, cells := 0, slots := 0, locals := 0 }) (va_Pc [.ref (ad 0)] (wrW dd cy (wM cy ad u ++ X) sz)) (va_Qv (fun u9 => svP n u u9 ∧ (∀ k, k ≠ 3 → u9.1 k = u.1 k) ∧ (∀ k, k ≠ 4 → u9.2.1 k = u.2.1 k) ∧ u9.2.2.1 = u.2.2.1 ∧ u9.2.2.2.2 = u.2.2.2.2) (wB dd cy (fun u9 : MS => wM cy ad u9 ++ X) (va_A (wM cy ad u ++ X) sz)) (va_A (wM cy ad u ++ X) sz)) 0 0 (va_A (wM cy ad u ++ X) sz) := by
  refine Met.ofW (cc := cX3_keep) (maxL := 2) (ret := none) (by decide) rfl ?_
  intro p e s m args below meth c s₁ B hml hv
  obtain ⟨rfl, hsz, hP, hK, hD0⟩ := hv
  have hx := B.exec
  have hb := B.bytes
  have hr := B.returns
  have hts := atoms_spec (ws := wsX3_keep) B.pre
  have hown : s.vm.findClass RX3 = some m.cls := findClass_of_methodNamed B.named
  have hlocks := B.notSynchronized
  subst hsz
  have hD := hD0.self (sz := s.heap.size)
  generalize hAe : va_A (wM cy ad u ++ X) s.heap.size = A at hD ⊢
  have hA : ∀ q : Nat, s.heap.size ≤ q → A q := fun q h => by rw [← hAe]; exact Or.inr h
  have hS : va_S A s.heap s.heap [] := va_S.rf
  have hl := lv_entry ([.ref (ad 0)]) (n := 2) (Nat.le_of_ble_eq_true rfl)
  rw [lg_entry_eq]
  generalize (lg_sl ([.ref (ad 0)]) ++ List.replicate (2 - (lg_sl ([.ref (ad 0)])).length) Slot.unset).toArray = ls at hl ⊢
  have hl : lv_has ls 2 [(0, .ref (ad 0))] := hl
  refine lv_aload_n hx hb dX3_keep_0 rfl (lv_at hl 0 rfl) ?_
  refine va_get (D := dd) (ci := 5) (v := .int (nI n)) (C := RX3) (T := TX3) (N := 15) hx hb hts (fun _ h9 => List.mem_cons_of_mem _ (List.mem_append_left _ (List.mem_append_right _ h9))) hown hK hP 0 (wM_0 cy ad u X) rfl 4 (by decide) (hts (Cond.fieldLink RX3 53 "HeadGridModel" "kept" "I") (List.mem_of_getElem? (i := 1) rfl)) (fun _ h9 => h9) (by rw [h_kept]; rfl) dX3_keep_1 ?_
  refine lv_iconst (v := nI 4) hx hb dX3_keep_4 (by decide) ?_
  refine wn_icmp_ne (tgt := 77) hx hb dX3_keep_5 (by decide) (by omega) (by omega) (fun cK => ?_) (fun cK => ?_)
  · refine lv_iconst (v := nI 0) hx hb dX3_keep_77 (by decide) ?_
    refine lv_istore_n (lv' := [(1, .int (nI 0)), (0, .ref (ad 0))]) hx hb dX3_keep_78 rfl hl (by decide) rfl (fun ls hl => ?_)
    obtain ⟨uB, huB⟩ : ∃ z9z, z9z = u := ⟨_, rfl⟩
    rw [← huB] at hP hD
    have m0 : kpM n = n ∧ kpD n = 0 := by unfold kpM kpD; rw [if_neg (by omega), if_neg (by omega)]; omega
    have hB : (∀ k9, k9 ≠ 3 → uB.1 k9 = u.1 k9) ∧ (∀ k9, k9 ≠ 4 → uB.2.1 k9 = u.2.1 k9) ∧ uB.2.2.1 = u.2.2.1 ∧ uB.2.2.2.2 = u.2.2.2.2 ∧ uB.1 3 = u.1 3 ∧ uB.2.1 4 = u.2.1 4 := by rw [huB]; exact ⟨fun _ _ => rfl, fun _ _ => rfl, rfl, rfl, rfl, rfl⟩
    have h_kept : nI n = uB.2.2.2.1 := by rw [huB]; exact h_kept
    refine wLoop (σ := Nat × MS) (fun k x H locs ls => k = 72 - x.1 ∧ (x.1 ≤ 72) ∧ (frI 3 uB x.2) ∧ (cpI (uB.1 3) (uB.1 1) (x.2.1 3) (72 * (n)) x.1) ∧ (nI n = x.2.2.2.2.1) ∧ va_P dd vwCl (wM cy ad x.2 ++ X) H ∧ va_D A (wM cy ad x.2 ++ X) ∧ va_S A s.heap H locs ∧ lv_has ls 2 [(1, .int (nI x.1)), (0, .ref (ad 0))]) ?_ _ (0, uB) _ _ _ ⟨rfl, (by omega), frI_rf, ⟨fun i9 h9 => absurd h9 (Nat.not_lt_zero i9), fun _ _ => rfl⟩, h_kept, hP, hD, hS, lv_sub hl [0, 1] rfl⟩
    intro kc x H locs ls hI ihc
    obtain ⟨j0, u1⟩ := x
    obtain ⟨hkc, hj, hF, hs, h_kept, hP, hD, hS, hl⟩ := hI
    have hkc : kc = 72 - j0 := hkc
    have hj : j0 ≤ 72 := hj
    have hF : frI 3 uB u1 := hF
    have hs : cpI (uB.1 3) (uB.1 1) (u1.1 3) (72 * (n)) j0 := hs
    have h_kept : nI n = u1.2.2.2.1 := h_kept
    have hP : va_P dd vwCl (wM cy ad u1 ++ X) H := hP
    have hD : va_D A (wM cy ad u1 ++ X) := hD
    have hl : lv_has ls 2 [(1, .int (nI j0)), (0, .ref (ad 0))] := hl
    refine lv_iload_n hx hb dX3_keep_79 rfl (lv_at hl 0 rfl) ?_
    refine lv_bipush (v := nI 72) hx hb dX3_keep_80 (by decide) ?_
    refine wn_icmp_ge (tgt := 111) hx hb dX3_keep_82 (by decide) (by omega) (by omega) (fun c1 => ?_) (fun c1 => ?_)
    · refine lv_iconst (v := nI 0) hx hb dX3_keep_111 (by decide) ?_
      refine lv_istore_n (lv' := [(1, .int (nI 0)), (0, .ref (ad 0))]) hx hb dX3_keep_112 rfl hl (by decide) rfl (fun ls hl => ?_)
      have hsC := hs
      have hFC := hF
      rw [show j0 = 72 by omega] at hsC
      obtain ⟨uC, huC⟩ : ∃ z9z, z9z = u1 := ⟨_, rfl⟩
      rw [← huC] at hP hD hsC hFC h_kept
      refine wLoop (σ := Nat × MS) (fun k x H locs ls => k = 9 - x.1 ∧ (x.1 ≤ 9) ∧ (frD 4 uC x.2) ∧ (cpD (uC.2.1 4) (uC.2.1 2) (x.2.2.1 4) (9 * (n)) x.1) ∧ (nI n = x.2.2.2.2.1) ∧ va_P dd vwCl (wM cy ad x.2 ++ X) H ∧ va_D A (wM cy ad x.2 ++ X) ∧ va_S A s.heap H locs ∧ lv_has ls 2 [(1, .int (nI x.1)), (0, .ref (ad 0))]) ?_ _ (0, uC) _ _ _ ⟨rfl, (by omega), frD_rf, ⟨fun i9 h9 => absurd h9 (Nat.not_lt_zero i9), fun _ _ => rfl⟩, h_kept, hP, hD, hS, lv_sub hl [0, 1] rfl⟩
      intro kd x H locs ls hI ihd
      obtain ⟨j0, u1⟩ := x
      obtain ⟨hkd, hj, hF, hs, h_kept, hP, hD, hS, hl⟩ := hI
      have hkd : kd = 9 - j0 := hkd
      have hj : j0 ≤ 9 := hj
      have hF : frD 4 uC u1 := hF
      have hs : cpD (uC.2.1 4) (uC.2.1 2) (u1.2.1 4) (9 * (n)) j0 := hs
      have h_kept : nI n = u1.2.2.2.1 := h_kept
      have hP : va_P dd vwCl (wM cy ad u1 ++ X) H := hP
      have hD : va_D A (wM cy ad u1 ++ X) := hD
      have hl : lv_has ls 2 [(1, .int (nI j0)), (0, .ref (ad 0))] := hl
      refine lv_iload_n hx hb dX3_keep_113 rfl (lv_at hl 0 rfl) ?_
      refine lv_bipush (v := nI 9) hx hb dX3_keep_114 (by decide) ?_
      refine wn_icmp_ge (tgt := 145) hx hb dX3_keep_116 (by decide) (by omega) (by omega) (fun c2 => ?_) (fun c2 => ?_)
      · have hsD := hs
        have hFD := hF
        rw [show j0 = 9 by omega] at hsD
        refine lv_aload_n hx hb dX3_keep_145 rfl (lv_at hl 1 rfl) ?_
        refine lv_dup hx hb dX3_keep_146 rfl ?_
        refine va_get (D := dd) (ci := 5) (v := .int (nI n)) (C := RX3) (T := TX3) (N := 15) hx hb hts (fun _ h9 => List.mem_cons_of_mem _ (List.mem_append_left _ (List.mem_append_right _ h9))) hown hK hP 0 (wM_0 cy ad u1 X) rfl 4 (by decide) (hts (Cond.fieldLink RX3 53 "HeadGridModel" "kept" "I") (List.mem_of_getElem? (i := 1) rfl)) (fun _ h9 => h9) (by rw [h_kept]; rfl) dX3_keep_147 ?_
        refine lv_iconst (v := nI 1) hx hb dX3_keep_150 (by decide) ?_
        refine wn_iadd hx hb dX3_keep_151 ?_
        refine va_put (D := dd) (ci := 5) (v := .int (nI (n + 1))) (ty := .int) (C := RX3) (T := TX3) (N := 15) hx hb hts (fun _ h9 => List.mem_cons_of_mem _ (List.mem_append_left _ (List.mem_append_right _ h9))) tyX3 tyX3_ok nmX3 hown hK hP hD hS 0 (wM_0 cy ad u1 X) rfl 4 (by decide) (hts (Cond.fieldLink RX3 53 "HeadGridModel" "kept" "I") (List.mem_of_getElem? (i := 1) rfl)) (fun _ h9 => h9) rfl (tyX3_ok 4 (by decide)) rfl rfl (Nat.le_of_ble_eq_true rfl) dX3_keep_152 (fun H locs hP hD hS => ?_)
        have hP : va_P dd vwCl (wM cy ad (u1.1, u1.2.1, u1.2.2.1, (nI (n + 1)), u1.2.2.2.2) ++ X) H := hP
        have hD : va_D A (wM cy ad (u1.1, u1.2.1, u1.2.2.1, (nI (n + 1)), u1.2.2.2.2) ++ X) := hD
        obtain ⟨us3, hus3⟩ : ∃ z9z : MS, z9z = (u1.1, u1.2.1, u1.2.2.1, (nI (n + 1)), u1.2.2.2.2) := ⟨_, rfl⟩
        rw [← hus3] at hP hD
        have pus3_1 : us3.1 = u1.1 := by rw [hus3]
        have pus3_21 : us3.2.1 = u1.2.1 := by rw [hus3]
        have pus3_221 : us3.2.2.1 = u1.2.2.1 := by rw [hus3]
        have h_kept : (nI (n + 1)) = us3.2.2.2.1 := by rw [hus3]
        have pus3_thrown : us3.2.2.2.2.1 = u1.2.2.2.2.1 := by rw [hus3]
        have pus3_whole : us3.2.2.2.2.2.1 = u1.2.2.2.2.2.1 := by rw [hus3]
        have pus3_hash : us3.2.2.2.2.2.2 = u1.2.2.2.2.2.2 := by rw [hus3]
        exact W.vret hx hb hr (fun t ht hW => ⟨⟨us3, rfl, ⟨⟨(by rw [← h_kept, m0.1]), (fun i9 hi9 j9 hj9 => by rw [pus3_1, hFD.1, hsC.2 _ (by have := m0.1; omega), hB.2.2.2.2.1, m0.2, Nat.add_zero]), (fun j9 hj9 => by rw [pus3_1, hFD.1, m0.1, hsC.1 j9 hj9, hB.1 1 (by decide)]), (fun i9 hi9 j9 hj9 => by rw [pus3_21, hsD.2 _ (by have := m0.1; omega), hFC.2, hB.2.2.2.2.2, m0.2, Nat.add_zero]), (fun j9 hj9 => by rw [pus3_21, m0.1, hsD.1 j9 hj9, hFC.2, hB.2.1 2 (by decide)])⟩, fun k9 h9 => by rw [pus3_1, hFD.1, hFC.1 k9 h9, hB.1 k9 h9], fun k9 h9 => by rw [pus3_21, hFD.2.1 k9 h9, hFC.2, hB.2.1 k9 h9], by rw [pus3_221, hFD.2.2, hFC.2, hB.2.2.1], by rw [hus3]; show u1.2.2.2.2 = _; rw [hFD.2.2, hFC.2, hB.2.2.2.1]⟩, by rw [ht]; exact hP, va_K.moved hW.alike hK, hD⟩, hS.F ht⟩) hS.2.2 dX3_keep_155
      · refine lv_aload_n hx hb dX3_keep_119 rfl (lv_at hl 1 rfl) ?_
        refine va_get (D := dd) (ci := 5) (v := .ref (ad 4)) (C := RX3) (T := TX3) (N := 15) hx hb hts (fun _ h9 => List.mem_cons_of_mem _ (List.mem_append_left _ (List.mem_append_right _ h9))) hown hK hP 0 (wM_0 cy ad u1 X) rfl 3 (by decide) (hts (Cond.fieldLink RX3 20 "HeadGridModel" "pastRelaxed" "[D") (List.mem_of_getElem? (i := 3) rfl)) (fun _ h9 => h9) rfl dX3_keep_120 ?_
        refine lv_bipush (v := nI 9) hx hb dX3_keep_123 (by decide) ?_
        refine lv_aload_n hx hb dX3_keep_125 rfl (lv_at hl 1 rfl) ?_
        refine va_get (D := dd) (ci := 5) (v := .int (nI n)) (C := RX3) (T := TX3) (N := 15) hx hb hts (fun _ h9 => List.mem_cons_of_mem _ (List.mem_append_left _ (List.mem_append_right _ h9))) hown hK hP 0 (wM_0 cy ad u1 X) rfl 4 (by decide) (hts (Cond.fieldLink RX3 53 "HeadGridModel" "kept" "I") (List.mem_of_getElem? (i := 1) rfl)) (fun _ h9 => h9) (by rw [h_kept]; rfl) dX3_keep_126 ?_
        refine wn_imul hx hb dX3_keep_129 ?_
        refine lv_iload_n hx hb dX3_keep_130 rfl (lv_at hl 0 rfl) ?_
        refine wn_iadd hx hb dX3_keep_131 ?_
        refine lv_aload_n hx hb dX3_keep_132 rfl (lv_at hl 1 rfl) ?_
        refine va_get (D := dd) (ci := 5) (v := .ref (ad 2)) (C := RX3) (T := TX3) (N := 15) hx hb hts (fun _ h9 => List.mem_cons_of_mem _ (List.mem_append_left _ (List.mem_append_right _ h9))) hown hK hP 0 (wM_0 cy ad u1 X) rfl 1 (by decide) (hts (Cond.fieldLink RX3 13 "HeadGridModel" "relaxed" "[D") (List.mem_of_getElem? (i := 5) rfl)) (fun _ h9 => h9) rfl dX3_keep_133 ?_
        refine lv_iload_n hx hb dX3_keep_136 rfl (lv_at hl 0 rfl) ?_
        refine wa_dald hx hb hK hP (wM_2 cy ad u1 X) (t0 := 2) rfl (i := j0) (by omega) (by decide) dX3_keep_137 ?_
        refine lv_topd (fun x4 ex4 => ?_)
        refine wa_dast hx hb hK hP hD hS (wM_4 cy ad u1 X) (t0 := 2) rfl (i := (9 * n) + j0) (by omega) (by decide) dX3_keep_138 (wM_s4 cy ad u1 X _) (fun H locs hP hD hS => ?_)
        obtain ⟨us5, hus5⟩ : ∃ z9z : MS, z9z = (u1.1, va_up u1.2.1 4 (vf_upd (u1.2.1 4) ((9 * n) + j0) x4), u1.2.2) := ⟨_, rfl⟩
        rw [← hus5] at hP hD
        have pus5_s : us5.2.1 4 = (vf_upd (u1.2.1 4) ((9 * n) + j0) x4) := by rw [hus5]; rfl
        have pus5_o : ∀ j9, j9 ≠ 4 → us5.2.1 j9 = u1.2.1 j9 := fun j9 h9 => by rw [hus5]; exact va_up_n h9
        have pus5_1 : us5.1 = u1.1 := by rw [hus5]
        have pus5_221 : us5.2.2.1 = u1.2.2.1 := by rw [hus5]
        have pus5_222 : us5.2.2.2 = u1.2.2.2 := by rw [hus5]
        have h_kept : (nI n) = us5.2.2.2.1 := by rw [hus5]; exact h_kept
        refine lv_iinc (v := (nI (j0 + 1))) (lv' := [(1, .int (nI (j0 + 1))), (0, .ref (ad 0))]) hx hb dX3_keep_139 hl (k := 0) rfl (nI_1 _) (by decide) rfl (fun ls hl => ?_)
        refine lv_goto (tgt := 113) hx hb dX3_keep_142 (by decide) ?_
        exact ihd (9 - (j0 + 1)) (j0 + 1, us5) _ _ ls (by omega) ⟨rfl, (by omega), (frD_set hF hus5), (by rw [pus5_s, ex4, hF.2.1 2 (by decide)]; exact cpD_s hs), h_kept, hP, hD, hS, lv_sub hl [0, 1] rfl⟩
    · refine lv_aload_n hx hb dX3_keep_85 rfl (lv_at hl 1 rfl) ?_
      refine va_get (D := dd) (ci := 5) (v := .ref (ad 3)) (C := RX3) (T := TX3) (N := 15) hx hb hts (fun _ h9 => List.mem_cons_of_mem _ (List.mem_append_left _ (List.mem_append_right _ h9))) hown hK hP 0 (wM_0 cy ad u1 X) rfl 2 (by decide) (hts (Cond.fieldLink RX3 17 "HeadGridModel" "past" "[I") (List.mem_of_getElem? (i := 2) rfl)) (fun _ h9 => h9) rfl dX3_keep_86 ?_
      refine lv_bipush (v := nI 72) hx hb dX3_keep_89 (by decide) ?_
      refine lv_aload_n hx hb dX3_keep_91 rfl (lv_at hl 1 rfl) ?_
      refine va_get (D := dd) (ci := 5) (v := .int (nI n)) (C := RX3) (T := TX3) (N := 15) hx hb hts (fun _ h9 => List.mem_cons_of_mem _ (List.mem_append_left _ (List.mem_append_right _ h9))) hown hK hP 0 (wM_0 cy ad u1 X) rfl 4 (by decide) (hts (Cond.fieldLink RX3 53 "HeadGridModel" "kept" "I") (List.mem_of_getElem? (i := 1) rfl)) (fun _ h9 => h9) (by rw [h_kept]; rfl) dX3_keep_92 ?_
      refine wn_imul hx hb dX3_keep_95 ?_
      refine lv_iload_n hx hb dX3_keep_96 rfl (lv_at hl 0 rfl) ?_
      refine wn_iadd hx hb dX3_keep_97 ?_
      refine lv_aload_n hx hb dX3_keep_98 rfl (lv_at hl 1 rfl) ?_
      refine va_get (D := dd) (ci := 5) (v := .ref (ad 1)) (C := RX3) (T := TX3) (N := 15) hx hb hts (fun _ h9 => List.mem_cons_of_mem _ (List.mem_append_left _ (List.mem_append_right _ h9))) hown hK hP 0 (wM_0 cy ad u1 X) rfl 0 (by decide) (hts (Cond.fieldLink RX3 7 "HeadGridModel" "now" "[I") (List.mem_of_getElem? (i := 4) rfl)) (fun _ h9 => h9) rfl dX3_keep_99 ?_
      refine lv_iload_n hx hb dX3_keep_102 rfl (lv_at hl 0 rfl) ?_
      refine wa_iald hx hb hK hP (wM_1 cy ad u1 X) (t0 := 0) rfl (i := j0) (by omega) (by decide) dX3_keep_103 ?_
      refine lv_topi (fun x6 ex6 => ?_)
      refine wa_iast hx hb hK hP hD hS (wM_3 cy ad u1 X) (t0 := 0) rfl (i := (72 * n) + j0) (by omega) (by decide) dX3_keep_104 (wM_s3 cy ad u1 X _) (fun H locs hP hD hS => ?_)
      obtain ⟨us7, hus7⟩ : ∃ z9z : MS, z9z = (va_up u1.1 3 (upd (u1.1 3) ((72 * n) + j0) x6), u1.2) := ⟨_, rfl⟩
      rw [← hus7] at hP hD
      have pus7_s : us7.1 3 = (upd (u1.1 3) ((72 * n) + j0) x6) := by rw [hus7]; rfl
      have pus7_o : ∀ j9, j9 ≠ 3 → us7.1 j9 = u1.1 j9 := fun j9 h9 => by rw [hus7]; exact va_up_n h9
      have pus7_21 : us7.2.1 = u1.2.1 := by rw [hus7]
      have pus7_221 : us7.2.2.1 = u1.2.2.1 := by rw [hus7]
      have pus7_222 : us7.2.2.2 = u1.2.2.2 := by rw [hus7]
      have h_kept : (nI n) = us7.2.2.2.1 := by rw [hus7]; exact h_kept
      refine lv_iinc (v := (nI (j0 + 1))) (lv' := [(1, .int (nI (j0 + 1))), (0, .ref (ad 0))]) hx hb dX3_keep_105 hl (k := 0) rfl (nI_1 _) (by decide) rfl (fun ls hl => ?_)
      refine lv_goto (tgt := 79) hx hb dX3_keep_108 (by decide) ?_
      exact ihc (72 - (j0 + 1)) (j0 + 1, us7) _ _ ls (by omega) ⟨rfl, (by omega), (frI_set hF hus7), (by rw [pus7_s, ex6, hF.1 1 (by decide)]; exact cpI_s hs), h_kept, hP, hD, hS, lv_sub hl [0, 1] rfl⟩
  · refine lv_iconst (v := nI 0) hx hb dX3_keep_8 (by decide) ?_
    refine lv_istore_n (lv' := [(1, .int (nI 0)), (0, .ref (ad 0))]) hx hb dX3_keep_9 rfl hl (by decide) rfl (fun ls hl => ?_)
    refine wLoop (σ := Nat × MS) (fun k x H locs ls => k = 216 - x.1 ∧ (x.1 ≤ 216) ∧ (frI 3 u x.2) ∧ (shI (u.1 3) (x.2.1 3) 72 x.1) ∧ va_P dd vwCl (wM cy ad x.2 ++ X) H ∧ va_D A (wM cy ad x.2 ++ X) ∧ va_S A s.heap H locs ∧ lv_has ls 2 [(1, .int (nI x.1)), (0, .ref (ad 0))]) ?_ _ (0, u) _ _ _ ⟨rfl, (by omega), frI_rf, ⟨fun i9 h9 => absurd h9 (Nat.not_lt_zero i9), fun _ _ => rfl⟩, hP, hD, hS, lv_sub hl [0, 1] rfl⟩
    intro ka x H locs ls hI iha
    obtain ⟨j0, u1⟩ := x
    obtain ⟨hka, hj, hF, hs, hP, hD, hS, hl⟩ := hI
    have hka : ka = 216 - j0 := hka
    have hj : j0 ≤ 216 := hj
    have hF : frI 3 u u1 := hF
    have hs : shI (u.1 3) (u1.1 3) 72 j0 := hs
    have hP : va_P dd vwCl (wM cy ad u1 ++ X) H := hP
    have hD : va_D A (wM cy ad u1 ++ X) := hD
    have hl : lv_has ls 2 [(1, .int (nI j0)), (0, .ref (ad 0))] := hl
    refine lv_iload_n hx hb dX3_keep_10 rfl (lv_at hl 0 rfl) ?_
    refine lv_sipush (v := nI 216) hx hb dX3_keep_11 (by decide) ?_
    refine wn_icmp_ge (tgt := 38) hx hb dX3_keep_14 (by decide) (by omega) (by omega) (fun c8 => ?_) (fun c8 => ?_)
    · refine lv_iconst (v := nI 0) hx hb dX3_keep_38 (by decide) ?_
      refine lv_istore_n (lv' := [(1, .int (nI 0)), (0, .ref (ad 0))]) hx hb dX3_keep_39 rfl hl (by decide) rfl (fun ls hl => ?_)
      have hsA := hs
      have hFA := hF
      rw [show j0 = 216 by omega] at hsA
      obtain ⟨uA, huA⟩ : ∃ z9z, z9z = u1 := ⟨_, rfl⟩
      rw [← huA] at hP hD hsA hFA
      refine wLoop (σ := Nat × MS) (fun k x H locs ls => k = 27 - x.1 ∧ (x.1 ≤ 27) ∧ (frD 4 uA x.2) ∧ (shD (uA.2.1 4) (x.2.2.1 4) 9 x.1) ∧ va_P dd vwCl (wM cy ad x.2 ++ X) H ∧ va_D A (wM cy ad x.2 ++ X) ∧ va_S A s.heap H locs ∧ lv_has ls 2 [(1, .int (nI x.1)), (0, .ref (ad 0))]) ?_ _ (0, uA) _ _ _ ⟨rfl, (by omega), frD_rf, ⟨fun i9 h9 => absurd h9 (Nat.not_lt_zero i9), fun _ _ => rfl⟩, hP, hD, hS, lv_sub hl [0, 1] rfl⟩
      intro kb x H locs ls hI ihb
      obtain ⟨j0, u1⟩ := x
      obtain ⟨hkb, hj, hF, hs, hP, hD, hS, hl⟩ := hI
      have hkb : kb = 27 - j0 := hkb
      have hj : j0 ≤ 27 := hj
      have hF : frD 4 uA u1 := hF
      have hs : shD (uA.2.1 4) (u1.2.1 4) 9 j0 := hs
      have hP : va_P dd vwCl (wM cy ad u1 ++ X) H := hP
      have hD : va_D A (wM cy ad u1 ++ X) := hD
      have hl : lv_has ls 2 [(1, .int (nI j0)), (0, .ref (ad 0))] := hl
      refine lv_iload_n hx hb dX3_keep_40 rfl (lv_at hl 0 rfl) ?_
      refine lv_bipush (v := nI 27) hx hb dX3_keep_41 (by decide) ?_
      refine wn_icmp_ge (tgt := 67) hx hb dX3_keep_43 (by decide) (by omega) (by omega) (fun c9 => ?_) (fun c9 => ?_)
      · have hsB := hs
        have hFB := hF
        rw [show j0 = 27 by omega] at hsB
        have h_kept : nI n = u1.2.2.2.1 := by rw [hFB.2.2, hFA.2]; exact h_kept
        refine lv_aload_n hx hb dX3_keep_67 rfl (lv_at hl 1 rfl) ?_
        refine lv_dup hx hb dX3_keep_68 rfl ?_
        refine va_get (D := dd) (ci := 5) (v := .int (nI n)) (C := RX3) (T := TX3) (N := 15) hx hb hts (fun _ h9 => List.mem_cons_of_mem _ (List.mem_append_left _ (List.mem_append_right _ h9))) hown hK hP 0 (wM_0 cy ad u1 X) rfl 4 (by decide) (hts (Cond.fieldLink RX3 53 "HeadGridModel" "kept" "I") (List.mem_of_getElem? (i := 1) rfl)) (fun _ h9 => h9) (by rw [h_kept]; rfl) dX3_keep_69 ?_
        refine lv_iconst (v := nI 1) hx hb dX3_keep_72 (by decide) ?_
        refine wn_isub hx hb dX3_keep_73 (by omega) ?_
        refine va_put (D := dd) (ci := 5) (v := .int (nI (n - 1))) (ty := .int) (C := RX3) (T := TX3) (N := 15) hx hb hts (fun _ h9 => List.mem_cons_of_mem _ (List.mem_append_left _ (List.mem_append_right _ h9))) tyX3 tyX3_ok nmX3 hown hK hP hD hS 0 (wM_0 cy ad u1 X) rfl 4 (by decide) (hts (Cond.fieldLink RX3 53 "HeadGridModel" "kept" "I") (List.mem_of_getElem? (i := 1) rfl)) (fun _ h9 => h9) rfl (tyX3_ok 4 (by decide)) rfl rfl (Nat.le_of_ble_eq_true rfl) dX3_keep_74 (fun H locs hP hD hS => ?_)
        have hP : va_P dd vwCl (wM cy ad (u1.1, u1.2.1, u1.2.2.1, (nI (n - 1)), u1.2.2.2.2) ++ X) H := hP
        have hD : va_D A (wM cy ad (u1.1, u1.2.1, u1.2.2.1, (nI (n - 1)), u1.2.2.2.2) ++ X) := hD
        obtain ⟨us10, hus10⟩ : ∃ z9z : MS, z9z = (u1.1, u1.2.1, u1.2.2.1, (nI (n - 1)), u1.2.2.2.2) := ⟨_, rfl⟩
        rw [← hus10] at hP hD
        have pus10_1 : us10.1 = u1.1 := by rw [hus10]
        have pus10_21 : us10.2.1 = u1.2.1 := by rw [hus10]
        have pus10_221 : us10.2.2.1 = u1.2.2.1 := by rw [hus10]
        have h_kept : (nI (n - 1)) = us10.2.2.2.1 := by rw [hus10]
        have pus10_thrown : us10.2.2.2.2.1 = u1.2.2.2.2.1 := by rw [hus10]
        have pus10_whole : us10.2.2.2.2.2.1 = u1.2.2.2.2.2.1 := by rw [hus10]
        have pus10_hash : us10.2.2.2.2.2.2 = u1.2.2.2.2.2.2 := by rw [hus10]
        refine lv_iconst (v := nI 0) hx hb dX3_keep_77 (by decide) ?_
        refine lv_istore_n (lv' := [(1, .int (nI 0)), (0, .ref (ad 0))]) hx hb dX3_keep_78 rfl hl (by decide) rfl (fun ls hl => ?_)
        obtain ⟨uB, huB⟩ : ∃ z9z, z9z = us10 := ⟨_, rfl⟩
        rw [← huB] at hP hD
        have m0 : kpM n = n - 1 ∧ kpD n = 1 := by unfold kpM kpD; rw [if_pos (by omega), if_pos (by omega)]; omega
        have hB : (∀ k9, k9 ≠ 3 → uB.1 k9 = u.1 k9) ∧ (∀ k9, k9 ≠ 4 → uB.2.1 k9 = u.2.1 k9) ∧ uB.2.2.1 = u.2.2.1 ∧ uB.2.2.2.2 = u.2.2.2.2 ∧ (∀ i9, i9 < 216 → uB.1 3 i9 = u.1 3 (i9 + 72)) ∧ (∀ i9, i9 < 27 → uB.2.1 4 i9 = u.2.1 4 (i9 + 9)) := by rw [huB]; refine ⟨fun k9 h9 => by rw [pus10_1, hFB.1, hFA.1 k9 h9], fun k9 h9 => by rw [pus10_21, hFB.2.1 k9 h9, hFA.2], by rw [pus10_221, hFB.2.2, hFA.2], by rw [hus10]; show u1.2.2.2.2 = _; rw [hFB.2.2, hFA.2], fun i9 h9 => by rw [pus10_1, hFB.1]; exact hsA.1 i9 h9, fun i9 h9 => by rw [pus10_21, hsB.1 i9 h9, hFA.2]⟩
        have h_kept : nI (n - 1) = uB.2.2.2.1 := by rw [huB]; exact h_kept
        refine wLoop (σ := Nat × MS) (fun k x H locs ls => k = 72 - x.1 ∧ (x.1 ≤ 72) ∧ (frI 3 uB x.2) ∧ (cpI (uB.1 3) (uB.1 1) (x.2.1 3) (72 * (n - 1)) x.1) ∧ (nI (n - 1) = x.2.2.2.2.1) ∧ va_P dd vwCl (wM cy ad x.2 ++ X) H ∧ va_D A (wM cy ad x.2 ++ X) ∧ va_S A s.heap H locs ∧ lv_has ls 2 [(1, .int (nI x.1)), (0, .ref (ad 0))]) ?_ _ (0, uB) _ _ _ ⟨rfl, (by omega), frI_rf, ⟨fun i9 h9 => absurd h9 (Nat.not_lt_zero i9), fun _ _ => rfl⟩, h_kept, hP, hD, hS, lv_sub hl [0, 1] rfl⟩
        intro kc x H locs ls hI ihc
        obtain ⟨j0, u1⟩ := x
        obtain ⟨hkc, hj, hF, hs, h_kept, hP, hD, hS, hl⟩ := hI
        have hkc : kc = 72 - j0 := hkc
        have hj : j0 ≤ 72 := hj
        have hF : frI 3 uB u1 := hF
        have hs : cpI (uB.1 3) (uB.1 1) (u1.1 3) (72 * (n - 1)) j0 := hs
        have h_kept : nI (n - 1) = u1.2.2.2.1 := h_kept
        have hP : va_P dd vwCl (wM cy ad u1 ++ X) H := hP
        have hD : va_D A (wM cy ad u1 ++ X) := hD
        have hl : lv_has ls 2 [(1, .int (nI j0)), (0, .ref (ad 0))] := hl
        refine lv_iload_n hx hb dX3_keep_79 rfl (lv_at hl 0 rfl) ?_
        refine lv_bipush (v := nI 72) hx hb dX3_keep_80 (by decide) ?_
        refine wn_icmp_ge (tgt := 111) hx hb dX3_keep_82 (by decide) (by omega) (by omega) (fun c11 => ?_) (fun c11 => ?_)
        · refine lv_iconst (v := nI 0) hx hb dX3_keep_111 (by decide) ?_
          refine lv_istore_n (lv' := [(1, .int (nI 0)), (0, .ref (ad 0))]) hx hb dX3_keep_112 rfl hl (by decide) rfl (fun ls hl => ?_)
          have hsC := hs
          have hFC := hF
          rw [show j0 = 72 by omega] at hsC
          obtain ⟨uC, huC⟩ : ∃ z9z, z9z = u1 := ⟨_, rfl⟩
          rw [← huC] at hP hD hsC hFC h_kept
          refine wLoop (σ := Nat × MS) (fun k x H locs ls => k = 9 - x.1 ∧ (x.1 ≤ 9) ∧ (frD 4 uC x.2) ∧ (cpD (uC.2.1 4) (uC.2.1 2) (x.2.2.1 4) (9 * (n - 1)) x.1) ∧ (nI (n - 1) = x.2.2.2.2.1) ∧ va_P dd vwCl (wM cy ad x.2 ++ X) H ∧ va_D A (wM cy ad x.2 ++ X) ∧ va_S A s.heap H locs ∧ lv_has ls 2 [(1, .int (nI x.1)), (0, .ref (ad 0))]) ?_ _ (0, uC) _ _ _ ⟨rfl, (by omega), frD_rf, ⟨fun i9 h9 => absurd h9 (Nat.not_lt_zero i9), fun _ _ => rfl⟩, h_kept, hP, hD, hS, lv_sub hl [0, 1] rfl⟩
          intro kd x H locs ls hI ihd
          obtain ⟨j0, u1⟩ := x
          obtain ⟨hkd, hj, hF, hs, h_kept, hP, hD, hS, hl⟩ := hI
          have hkd : kd = 9 - j0 := hkd
          have hj : j0 ≤ 9 := hj
          have hF : frD 4 uC u1 := hF
          have hs : cpD (uC.2.1 4) (uC.2.1 2) (u1.2.1 4) (9 * (n - 1)) j0 := hs
          have h_kept : nI (n - 1) = u1.2.2.2.1 := h_kept
          have hP : va_P dd vwCl (wM cy ad u1 ++ X) H := hP
          have hD : va_D A (wM cy ad u1 ++ X) := hD
          have hl : lv_has ls 2 [(1, .int (nI j0)), (0, .ref (ad 0))] := hl
          refine lv_iload_n hx hb dX3_keep_113 rfl (lv_at hl 0 rfl) ?_
          refine lv_bipush (v := nI 9) hx hb dX3_keep_114 (by decide) ?_
          refine wn_icmp_ge (tgt := 145) hx hb dX3_keep_116 (by decide) (by omega) (by omega) (fun c12 => ?_) (fun c12 => ?_)
          · have hsD := hs
            have hFD := hF
            rw [show j0 = 9 by omega] at hsD
            refine lv_aload_n hx hb dX3_keep_145 rfl (lv_at hl 1 rfl) ?_
            refine lv_dup hx hb dX3_keep_146 rfl ?_
            refine va_get (D := dd) (ci := 5) (v := .int (nI (n - 1))) (C := RX3) (T := TX3) (N := 15) hx hb hts (fun _ h9 => List.mem_cons_of_mem _ (List.mem_append_left _ (List.mem_append_right _ h9))) hown hK hP 0 (wM_0 cy ad u1 X) rfl 4 (by decide) (hts (Cond.fieldLink RX3 53 "HeadGridModel" "kept" "I") (List.mem_of_getElem? (i := 1) rfl)) (fun _ h9 => h9) (by rw [h_kept]; rfl) dX3_keep_147 ?_
            refine lv_iconst (v := nI 1) hx hb dX3_keep_150 (by decide) ?_
            refine wn_iadd hx hb dX3_keep_151 ?_
            refine va_put (D := dd) (ci := 5) (v := .int (nI ((n - 1) + 1))) (ty := .int) (C := RX3) (T := TX3) (N := 15) hx hb hts (fun _ h9 => List.mem_cons_of_mem _ (List.mem_append_left _ (List.mem_append_right _ h9))) tyX3 tyX3_ok nmX3 hown hK hP hD hS 0 (wM_0 cy ad u1 X) rfl 4 (by decide) (hts (Cond.fieldLink RX3 53 "HeadGridModel" "kept" "I") (List.mem_of_getElem? (i := 1) rfl)) (fun _ h9 => h9) rfl (tyX3_ok 4 (by decide)) rfl rfl (Nat.le_of_ble_eq_true rfl) dX3_keep_152 (fun H locs hP hD hS => ?_)
            have hP : va_P dd vwCl (wM cy ad (u1.1, u1.2.1, u1.2.2.1, (nI ((n - 1) + 1)), u1.2.2.2.2) ++ X) H := hP
            have hD : va_D A (wM cy ad (u1.1, u1.2.1, u1.2.2.1, (nI ((n - 1) + 1)), u1.2.2.2.2) ++ X) := hD
            obtain ⟨us13, hus13⟩ : ∃ z9z : MS, z9z = (u1.1, u1.2.1, u1.2.2.1, (nI ((n - 1) + 1)), u1.2.2.2.2) := ⟨_, rfl⟩
            rw [← hus13] at hP hD
            have pus13_1 : us13.1 = u1.1 := by rw [hus13]
            have pus13_21 : us13.2.1 = u1.2.1 := by rw [hus13]
            have pus13_221 : us13.2.2.1 = u1.2.2.1 := by rw [hus13]
            have h_kept : (nI ((n - 1) + 1)) = us13.2.2.2.1 := by rw [hus13]
            have pus13_thrown : us13.2.2.2.2.1 = u1.2.2.2.2.1 := by rw [hus13]
            have pus13_whole : us13.2.2.2.2.2.1 = u1.2.2.2.2.2.1 := by rw [hus13]
            have pus13_hash : us13.2.2.2.2.2.2 = u1.2.2.2.2.2.2 := by rw [hus13]
            exact W.vret hx hb hr (fun t ht hW => ⟨⟨us13, rfl, ⟨⟨(by rw [← h_kept, m0.1]), (fun i9 hi9 j9 hj9 => by rw [pus13_1, hFD.1, hsC.2 _ (by have := m0.1; omega), hB.2.2.2.2.1 _ (by have := m0.1; omega), m0.2, show 72 * (i9 + 1) + j9 = 72 * i9 + j9 + 72 by omega]), (fun j9 hj9 => by rw [pus13_1, hFD.1, m0.1, hsC.1 j9 hj9, hB.1 1 (by decide)]), (fun i9 hi9 j9 hj9 => by rw [pus13_21, hsD.2 _ (by have := m0.1; omega), hFC.2, hB.2.2.2.2.2 _ (by have := m0.1; omega), m0.2, show 9 * (i9 + 1) + j9 = 9 * i9 + j9 + 9 by omega]), (fun j9 hj9 => by rw [pus13_21, m0.1, hsD.1 j9 hj9, hFC.2, hB.2.1 2 (by decide)])⟩, fun k9 h9 => by rw [pus13_1, hFD.1, hFC.1 k9 h9, hB.1 k9 h9], fun k9 h9 => by rw [pus13_21, hFD.2.1 k9 h9, hFC.2, hB.2.1 k9 h9], by rw [pus13_221, hFD.2.2, hFC.2, hB.2.2.1], by rw [hus13]; show u1.2.2.2.2 = _; rw [hFD.2.2, hFC.2, hB.2.2.2.1]⟩, by rw [ht]; exact hP, va_K.moved hW.alike hK, hD⟩, hS.F ht⟩) hS.2.2 dX3_keep_155
          · refine lv_aload_n hx hb dX3_keep_119 rfl (lv_at hl 1 rfl) ?_
            refine va_get (D := dd) (ci := 5) (v := .ref (ad 4)) (C := RX3) (T := TX3) (N := 15) hx hb hts (fun _ h9 => List.mem_cons_of_mem _ (List.mem_append_left _ (List.mem_append_right _ h9))) hown hK hP 0 (wM_0 cy ad u1 X) rfl 3 (by decide) (hts (Cond.fieldLink RX3 20 "HeadGridModel" "pastRelaxed" "[D") (List.mem_of_getElem? (i := 3) rfl)) (fun _ h9 => h9) rfl dX3_keep_120 ?_
            refine lv_bipush (v := nI 9) hx hb dX3_keep_123 (by decide) ?_
            refine lv_aload_n hx hb dX3_keep_125 rfl (lv_at hl 1 rfl) ?_
            refine va_get (D := dd) (ci := 5) (v := .int (nI (n - 1))) (C := RX3) (T := TX3) (N := 15) hx hb hts (fun _ h9 => List.mem_cons_of_mem _ (List.mem_append_left _ (List.mem_append_right _ h9))) hown hK hP 0 (wM_0 cy ad u1 X) rfl 4 (by decide) (hts (Cond.fieldLink RX3 53 "HeadGridModel" "kept" "I") (List.mem_of_getElem? (i := 1) rfl)) (fun _ h9 => h9) (by rw [h_kept]; rfl) dX3_keep_126 ?_
            refine wn_imul hx hb dX3_keep_129 ?_
            refine lv_iload_n hx hb dX3_keep_130 rfl (lv_at hl 0 rfl) ?_
            refine wn_iadd hx hb dX3_keep_131 ?_
            refine lv_aload_n hx hb dX3_keep_132 rfl (lv_at hl 1 rfl) ?_
            refine va_get (D := dd) (ci := 5) (v := .ref (ad 2)) (C := RX3) (T := TX3) (N := 15) hx hb hts (fun _ h9 => List.mem_cons_of_mem _ (List.mem_append_left _ (List.mem_append_right _ h9))) hown hK hP 0 (wM_0 cy ad u1 X) rfl 1 (by decide) (hts (Cond.fieldLink RX3 13 "HeadGridModel" "relaxed" "[D") (List.mem_of_getElem? (i := 5) rfl)) (fun _ h9 => h9) rfl dX3_keep_133 ?_
            refine lv_iload_n hx hb dX3_keep_136 rfl (lv_at hl 0 rfl) ?_
            refine wa_dald hx hb hK hP (wM_2 cy ad u1 X) (t0 := 2) rfl (i := j0) (by omega) (by decide) dX3_keep_137 ?_
            refine lv_topd (fun x14 ex14 => ?_)
            refine wa_dast hx hb hK hP hD hS (wM_4 cy ad u1 X) (t0 := 2) rfl (i := (9 * (n - 1)) + j0) (by omega) (by decide) dX3_keep_138 (wM_s4 cy ad u1 X _) (fun H locs hP hD hS => ?_)
            obtain ⟨us15, hus15⟩ : ∃ z9z : MS, z9z = (u1.1, va_up u1.2.1 4 (vf_upd (u1.2.1 4) ((9 * (n - 1)) + j0) x14), u1.2.2) := ⟨_, rfl⟩
            rw [← hus15] at hP hD
            have pus15_s : us15.2.1 4 = (vf_upd (u1.2.1 4) ((9 * (n - 1)) + j0) x14) := by rw [hus15]; rfl
            have pus15_o : ∀ j9, j9 ≠ 4 → us15.2.1 j9 = u1.2.1 j9 := fun j9 h9 => by rw [hus15]; exact va_up_n h9
            have pus15_1 : us15.1 = u1.1 := by rw [hus15]
            have pus15_221 : us15.2.2.1 = u1.2.2.1 := by rw [hus15]
            have pus15_222 : us15.2.2.2 = u1.2.2.2 := by rw [hus15]
            have h_kept : (nI (n - 1)) = us15.2.2.2.1 := by rw [hus15]; exact h_kept
            refine lv_iinc (v := (nI (j0 + 1))) (lv' := [(1, .int (nI (j0 + 1))), (0, .ref (ad 0))]) hx hb dX3_keep_139 hl (k := 0) rfl (nI_1 _) (by decide) rfl (fun ls hl => ?_)
            refine lv_goto (tgt := 113) hx hb dX3_keep_142 (by decide) ?_
            exact ihd (9 - (j0 + 1)) (j0 + 1, us15) _ _ ls (by omega) ⟨rfl, (by omega), (frD_set hF hus15), (by rw [pus15_s, ex14, hF.2.1 2 (by decide)]; exact cpD_s hs), h_kept, hP, hD, hS, lv_sub hl [0, 1] rfl⟩
        · refine lv_aload_n hx hb dX3_keep_85 rfl (lv_at hl 1 rfl) ?_
          refine va_get (D := dd) (ci := 5) (v := .ref (ad 3)) (C := RX3) (T := TX3) (N := 15) hx hb hts (fun _ h9 => List.mem_cons_of_mem _ (List.mem_append_left _ (List.mem_append_right _ h9))) hown hK hP 0 (wM_0 cy ad u1 X) rfl 2 (by decide) (hts (Cond.fieldLink RX3 17 "HeadGridModel" "past" "[I") (List.mem_of_getElem? (i := 2) rfl)) (fun _ h9 => h9) rfl dX3_keep_86 ?_
          refine lv_bipush (v := nI 72) hx hb dX3_keep_89 (by decide) ?_
          refine lv_aload_n hx hb dX3_keep_91 rfl (lv_at hl 1 rfl) ?_
          refine va_get (D := dd) (ci := 5) (v := .int (nI (n - 1))) (C := RX3) (T := TX3) (N := 15) hx hb hts (fun _ h9 => List.mem_cons_of_mem _ (List.mem_append_left _ (List.mem_append_right _ h9))) hown hK hP 0 (wM_0 cy ad u1 X) rfl 4 (by decide) (hts (Cond.fieldLink RX3 53 "HeadGridModel" "kept" "I") (List.mem_of_getElem? (i := 1) rfl)) (fun _ h9 => h9) (by rw [h_kept]; rfl) dX3_keep_92 ?_
          refine wn_imul hx hb dX3_keep_95 ?_
          refine lv_iload_n hx hb dX3_keep_96 rfl (lv_at hl 0 rfl) ?_
          refine wn_iadd hx hb dX3_keep_97 ?_
          refine lv_aload_n hx hb dX3_keep_98 rfl (lv_at hl 1 rfl) ?_
          refine va_get (D := dd) (ci := 5) (v := .ref (ad 1)) (C := RX3) (T := TX3) (N := 15) hx hb hts (fun _ h9 => List.mem_cons_of_mem _ (List.mem_append_left _ (List.mem_append_right _ h9))) hown hK hP 0 (wM_0 cy ad u1 X) rfl 0 (by decide) (hts (Cond.fieldLink RX3 7 "HeadGridModel" "now" "[I") (List.mem_of_getElem? (i := 4) rfl)) (fun _ h9 => h9) rfl dX3_keep_99 ?_
          refine lv_iload_n hx hb dX3_keep_102 rfl (lv_at hl 0 rfl) ?_
          refine wa_iald hx hb hK hP (wM_1 cy ad u1 X) (t0 := 0) rfl (i := j0) (by omega) (by decide) dX3_keep_103 ?_
          refine lv_topi (fun x16 ex16 => ?_)
          refine wa_iast hx hb hK hP hD hS (wM_3 cy ad u1 X) (t0 := 0) rfl (i := (72 * (n - 1)) + j0) (by omega) (by decide) dX3_keep_104 (wM_s3 cy ad u1 X _) (fun H locs hP hD hS => ?_)
          obtain ⟨us17, hus17⟩ : ∃ z9z : MS, z9z = (va_up u1.1 3 (upd (u1.1 3) ((72 * (n - 1)) + j0) x16), u1.2) := ⟨_, rfl⟩
          rw [← hus17] at hP hD
          have pus17_s : us17.1 3 = (upd (u1.1 3) ((72 * (n - 1)) + j0) x16) := by rw [hus17]; rfl
          have pus17_o : ∀ j9, j9 ≠ 3 → us17.1 j9 = u1.1 j9 := fun j9 h9 => by rw [hus17]; exact va_up_n h9
          have pus17_21 : us17.2.1 = u1.2.1 := by rw [hus17]
          have pus17_221 : us17.2.2.1 = u1.2.2.1 := by rw [hus17]
          have pus17_222 : us17.2.2.2 = u1.2.2.2 := by rw [hus17]
          have h_kept : (nI (n - 1)) = us17.2.2.2.1 := by rw [hus17]; exact h_kept
          refine lv_iinc (v := (nI (j0 + 1))) (lv' := [(1, .int (nI (j0 + 1))), (0, .ref (ad 0))]) hx hb dX3_keep_105 hl (k := 0) rfl (nI_1 _) (by decide) rfl (fun ls hl => ?_)
          refine lv_goto (tgt := 79) hx hb dX3_keep_108 (by decide) ?_
          exact ihc (72 - (j0 + 1)) (j0 + 1, us17) _ _ ls (by omega) ⟨rfl, (by omega), (frI_set hF hus17), (by rw [pus17_s, ex16, hF.1 1 (by decide)]; exact cpI_s hs), h_kept, hP, hD, hS, lv_sub hl [0, 1] rfl⟩
      · refine lv_aload_n hx hb dX3_keep_46 rfl (lv_at hl 1 rfl) ?_
        refine va_get (D := dd) (ci := 5) (v := .ref (ad 4)) (C := RX3) (T := TX3) (N := 15) hx hb hts (fun _ h9 => List.mem_cons_of_mem _ (List.mem_append_left _ (List.mem_append_right _ h9))) hown hK hP 0 (wM_0 cy ad u1 X) rfl 3 (by decide) (hts (Cond.fieldLink RX3 20 "HeadGridModel" "pastRelaxed" "[D") (List.mem_of_getElem? (i := 3) rfl)) (fun _ h9 => h9) rfl dX3_keep_47 ?_
        refine lv_iload_n hx hb dX3_keep_50 rfl (lv_at hl 0 rfl) ?_
        refine lv_aload_n hx hb dX3_keep_51 rfl (lv_at hl 1 rfl) ?_
        refine va_get (D := dd) (ci := 5) (v := .ref (ad 4)) (C := RX3) (T := TX3) (N := 15) hx hb hts (fun _ h9 => List.mem_cons_of_mem _ (List.mem_append_left _ (List.mem_append_right _ h9))) hown hK hP 0 (wM_0 cy ad u1 X) rfl 3 (by decide) (hts (Cond.fieldLink RX3 20 "HeadGridModel" "pastRelaxed" "[D") (List.mem_of_getElem? (i := 3) rfl)) (fun _ h9 => h9) rfl dX3_keep_52 ?_
        refine lv_iload_n hx hb dX3_keep_55 rfl (lv_at hl 0 rfl) ?_
        refine lv_bipush (v := nI 9) hx hb dX3_keep_56 (by decide) ?_
        refine wn_iadd hx hb dX3_keep_58 ?_
        refine wa_dald hx hb hK hP (wM_4 cy ad u1 X) (t0 := 2) rfl (i := j0 + 9) (by omega) (by decide) dX3_keep_59 ?_
        refine lv_topd (fun x18 ex18 => ?_)
        refine wa_dast hx hb hK hP hD hS (wM_4 cy ad u1 X) (t0 := 2) rfl (i := j0) (by omega) (by decide) dX3_keep_60 (wM_s4 cy ad u1 X _) (fun H locs hP hD hS => ?_)
        obtain ⟨us19, hus19⟩ : ∃ z9z : MS, z9z = (u1.1, va_up u1.2.1 4 (vf_upd (u1.2.1 4) j0 x18), u1.2.2) := ⟨_, rfl⟩
        rw [← hus19] at hP hD
        have pus19_s : us19.2.1 4 = (vf_upd (u1.2.1 4) j0 x18) := by rw [hus19]; rfl
        have pus19_o : ∀ j9, j9 ≠ 4 → us19.2.1 j9 = u1.2.1 j9 := fun j9 h9 => by rw [hus19]; exact va_up_n h9
        have pus19_1 : us19.1 = u1.1 := by rw [hus19]
        have pus19_221 : us19.2.2.1 = u1.2.2.1 := by rw [hus19]
        have pus19_222 : us19.2.2.2 = u1.2.2.2 := by rw [hus19]
        refine lv_iinc (v := (nI (j0 + 1))) (lv' := [(1, .int (nI (j0 + 1))), (0, .ref (ad 0))]) hx hb dX3_keep_61 hl (k := 0) rfl (nI_1 _) (by decide) rfl (fun ls hl => ?_)
        refine lv_goto (tgt := 40) hx hb dX3_keep_64 (by decide) ?_
        exact ihb (27 - (j0 + 1)) (j0 + 1, us19) _ _ ls (by omega) ⟨rfl, (by omega), (frD_set hF hus19), (by rw [pus19_s, ex18]; exact shD_s (by decide) hs), hP, hD, hS, lv_sub hl [0, 1] rfl⟩
    · refine lv_aload_n hx hb dX3_keep_17 rfl (lv_at hl 1 rfl) ?_
      refine va_get (D := dd) (ci := 5) (v := .ref (ad 3)) (C := RX3) (T := TX3) (N := 15) hx hb hts (fun _ h9 => List.mem_cons_of_mem _ (List.mem_append_left _ (List.mem_append_right _ h9))) hown hK hP 0 (wM_0 cy ad u1 X) rfl 2 (by decide) (hts (Cond.fieldLink RX3 17 "HeadGridModel" "past" "[I") (List.mem_of_getElem? (i := 2) rfl)) (fun _ h9 => h9) rfl dX3_keep_18 ?_
      refine lv_iload_n hx hb dX3_keep_21 rfl (lv_at hl 0 rfl) ?_
      refine lv_aload_n hx hb dX3_keep_22 rfl (lv_at hl 1 rfl) ?_
      refine va_get (D := dd) (ci := 5) (v := .ref (ad 3)) (C := RX3) (T := TX3) (N := 15) hx hb hts (fun _ h9 => List.mem_cons_of_mem _ (List.mem_append_left _ (List.mem_append_right _ h9))) hown hK hP 0 (wM_0 cy ad u1 X) rfl 2 (by decide) (hts (Cond.fieldLink RX3 17 "HeadGridModel" "past" "[I") (List.mem_of_getElem? (i := 2) rfl)) (fun _ h9 => h9) rfl dX3_keep_23 ?_
      refine lv_iload_n hx hb dX3_keep_26 rfl (lv_at hl 0 rfl) ?_
      refine lv_bipush (v := nI 72) hx hb dX3_keep_27 (by decide) ?_
      refine wn_iadd hx hb dX3_keep_29 ?_
      refine wa_iald hx hb hK hP (wM_3 cy ad u1 X) (t0 := 0) rfl (i := j0 + 72) (by omega) (by decide) dX3_keep_30 ?_
      refine lv_topi (fun x20 ex20 => ?_)
      refine wa_iast hx hb hK hP hD hS (wM_3 cy ad u1 X) (t0 := 0) rfl (i := j0) (by omega) (by decide) dX3_keep_31 (wM_s3 cy ad u1 X _) (fun H locs hP hD hS => ?_)
      obtain ⟨us21, hus21⟩ : ∃ z9z : MS, z9z = (va_up u1.1 3 (upd (u1.1 3) j0 x20), u1.2) := ⟨_, rfl⟩
      rw [← hus21] at hP hD
      have pus21_s : us21.1 3 = (upd (u1.1 3) j0 x20) := by rw [hus21]; rfl
      have pus21_o : ∀ j9, j9 ≠ 3 → us21.1 j9 = u1.1 j9 := fun j9 h9 => by rw [hus21]; exact va_up_n h9
      have pus21_21 : us21.2.1 = u1.2.1 := by rw [hus21]
      have pus21_221 : us21.2.2.1 = u1.2.2.1 := by rw [hus21]
      have pus21_222 : us21.2.2.2 = u1.2.2.2 := by rw [hus21]
      refine lv_iinc (v := (nI (j0 + 1))) (lv' := [(1, .int (nI (j0 + 1))), (0, .ref (ad 0))]) hx hb dX3_keep_32 hl (k := 0) rfl (nI_1 _) (by decide) rfl (fun ls hl => ?_)
      refine lv_goto (tgt := 10) hx hb dX3_keep_35 (by decide) ?_
      exact iha (216 - (j0 + 1)) (j0 + 1, us21) _ _ ls (by omega) ⟨rfl, (by omega), (frI_set hF hus21), (by rw [pus21_s, ex20]; exact shI_s (by decide) hs), hP, hD, hS, lv_sub hl [0, 1] rfl⟩
theorem hd_X3_becomes : yX3_becomes.cls = RX3 ∧ yX3_becomes.cls ≠ "java/lang/invoke/MethodHandle" ∧ yX3_becomes.cls ≠ "java/lang/invoke/VarHandle" ∧ (parseMethodDescriptor yX3_becomes.desc).map (fun d => d.parameters.length) = some 2 := by decide +kernel
set_option maxHeartbeats 4000000 in
set_option maxRecDepth 100000 in
/-- becomes(at, v) -/
theorem c_X3_becomes (l : Launch) (dd : va_G) (cy : Nat → ClassId) (ad : Nat → Nat) (X : va_W) (u : MS) (sz : Nat) (n : Nat) (hn : n ≤ 4) (h_kept : nI n = u.2.2.2.1) (q0 : Nat) (hq0 : q0 < 72) (v : Int32) : Met l yX3_becomes wsX3_becomes ({ frames := 1, cells := 0, slots := 0, locals := 21 }) (va_Pc [.ref (ad 0), .int (nI q0), .int v] (wrW dd cy (wM cy ad u ++ X) sz)) (va_Qi (fun r u9 => r = u.1 1 q0 ∧ svP n u u9 ∧ u9.1 1 = upd (u.1 1) q0 v ∧ (∀ k, k ≠ 4 → u9.2.1 k = u.2.1 k) ∧ u9.2.2.2.2 = u.2.2.2.2) (wB dd cy (fun u9 : MS => wM cy ad u9 ++ X) (va_A (wM cy ad u ++ X) sz)) (va_A (wM cy ad u ++ X) sz)) 0 0 (va_A (wM cy ad u ++ X) sz) := by
  refine Met.ofW (cc := cX3_becomes) (maxL := 4) (ret := (some .int)) (by decide) rfl ?_
  intro p e s m args below meth c s₁ B hml hv
  obtain ⟨rfl, hsz, hP, hK, hD0⟩ := hv
  have hx := B.exec
  have hb := B.bytes
  have hr := B.returns
  have hts := atoms_spec (ws := wsX3_becomes) B.pre
  have hown : s.vm.findClass RX3 = some m.cls := findClass_of_methodNamed B.named
  have hlocks := B.notSynchronized
  subst hsz
  have hD := hD0.self (sz := s.heap.size)
  generalize hAe : va_A (wM cy ad u ++ X) s.heap.size = A at hD ⊢
  have hA : ∀ q : Nat, s.heap.size ≤ q → A q := fun q h => by rw [← hAe]; exact Or.inr h
  have hS : va_S A s.heap s.heap [] := va_S.rf
  have hl := lv_entry ([.ref (ad 0), .int (nI q0), .int v]) (n := 4) (Nat.le_of_ble_eq_true rfl)
  rw [lg_entry_eq]
  generalize (lg_sl ([.ref (ad 0), .int (nI q0), .int v]) ++ List.replicate (4 - (lg_sl ([.ref (ad 0), .int (nI q0), .int v])).length) Slot.unset).toArray = ls at hl ⊢
  have hl : lv_has ls 4 [(0, .ref (ad 0)), (1, .int (nI q0)), (2, .int v)] := hl
  refine lv_aload_n hx hb dX3_becomes_0 rfl (lv_at hl 0 rfl) ?_
  refine wc_callv (va_runV (As := []) (rest := []) ⟨hx, hb, hml, hown, hts⟩ (c_X3_keep l dd cy ad X u _ n hn h_kept) (cwV 0 hts gX3_becomes_X3_keep rfl rfl rfl hd_X3_keep ⟨Nat.le_of_ble_eq_true rfl, Nat.le_of_ble_eq_true rfl⟩) (wrW_V hP hK hD (wM_0 cy ad u X) rfl) rfl rfl hl.1 rfl (lv_room (Nat.le_of_ble_eq_true rfl)) dX3_becomes_1 ⟨Nat.le_of_ble_eq_true rfl, Nat.le_of_ble_eq_true rfl⟩) hD hS hA (fun us1 H locs w2 hP hD hS => ?_)
  obtain ⟨hsv, hki, hkd, hkl, hks⟩ := w2
  refine lv_aload_n hx hb dX3_becomes_4 rfl (lv_at hl 0 rfl) ?_
  refine va_get (D := dd) (ci := 5) (v := .ref (ad 1)) (C := RX3) (T := TX3) (N := 15) hx hb hts (fun _ h9 => List.mem_cons_of_mem _ (List.mem_append_left _ (List.mem_append_right _ h9))) hown hK hP 0 (wM_0 cy ad us1 X) rfl 0 (by decide) (hts (Cond.fieldLink RX3 7 "HeadGridModel" "now" "[I") (List.mem_of_getElem? (i := 1) rfl)) (fun _ h9 => h9) rfl dX3_becomes_5 ?_
  refine lv_iload_n hx hb dX3_becomes_8 rfl (lv_at hl 1 rfl) ?_
  refine wa_iald hx hb hK hP (wM_1 cy ad us1 X) (t0 := 0) rfl (i := q0) (by omega) (by decide) dX3_becomes_9 ?_
  refine lv_topi (fun x3 ex3 => ?_)
  refine lv_istore_n (lv' := [(3, .int x3), (0, .ref (ad 0)), (1, .int (nI q0)), (2, .int v)]) hx hb dX3_becomes_10 rfl hl (by decide) rfl (fun ls hl => ?_)
  refine lv_aload_n hx hb dX3_becomes_11 rfl (lv_at hl 1 rfl) ?_
  refine va_get (D := dd) (ci := 5) (v := .ref (ad 1)) (C := RX3) (T := TX3) (N := 15) hx hb hts (fun _ h9 => List.mem_cons_of_mem _ (List.mem_append_left _ (List.mem_append_right _ h9))) hown hK hP 0 (wM_0 cy ad us1 X) rfl 0 (by decide) (hts (Cond.fieldLink RX3 7 "HeadGridModel" "now" "[I") (List.mem_of_getElem? (i := 1) rfl)) (fun _ h9 => h9) rfl dX3_becomes_12 ?_
  refine lv_iload_n hx hb dX3_becomes_15 rfl (lv_at hl 2 rfl) ?_
  refine lv_iload_n hx hb dX3_becomes_16 rfl (lv_at hl 3 rfl) ?_
  refine wa_iast hx hb hK hP hD hS (wM_1 cy ad us1 X) (t0 := 0) rfl (i := q0) (by omega) (by decide) dX3_becomes_17 (wM_s1 cy ad us1 X _) (fun H locs hP hD hS => ?_)
  obtain ⟨us4, hus4⟩ : ∃ z9z : MS, z9z = (va_up us1.1 1 (upd (us1.1 1) q0 v), us1.2) := ⟨_, rfl⟩
  rw [← hus4] at hP hD
  have pus4_s : us4.1 1 = (upd (us1.1 1) q0 v) := by rw [hus4]; rfl
  have pus4_o : ∀ j9, j9 ≠ 1 → us4.1 j9 = us1.1 j9 := fun j9 h9 => by rw [hus4]; exact va_up_n h9
  have pus4_21 : us4.2.1 = us1.2.1 := by rw [hus4]
  have pus4_221 : us4.2.2.1 = us1.2.2.1 := by rw [hus4]
  have pus4_222 : us4.2.2.2 = us1.2.2.2 := by rw [hus4]
  refine lv_iload_n hx hb dX3_becomes_18 rfl (lv_at hl 0 rfl) ?_
  exact W.iret (v := x3) hx hb hr (fun t ht hW => ⟨⟨x3, us4, rfl, ⟨by rw [ex3, hki 1 (by decide)], ⟨by rw [hus4]; exact hsv.1, fun i9 hi9 j9 hj9 => by rw [pus4_o 3 (by decide)]; exact hsv.2.1 i9 hi9 j9 hj9, fun j9 hj9 => by rw [pus4_o 3 (by decide)]; exact hsv.2.2.1 j9 hj9, fun i9 hi9 j9 hj9 => by rw [pus4_21]; exact hsv.2.2.2.1 i9 hi9 j9 hj9, fun j9 hj9 => by rw [pus4_21]; exact hsv.2.2.2.2 j9 hj9⟩, by rw [pus4_s, hki 1 (by decide)], fun k9 h9 => by rw [pus4_21]; exact hkd k9 h9, by rw [hus4]; exact hks⟩, by rw [ht]; exact hP, va_K.moved hW.alike hK, hD⟩, hS.F ht⟩) hS.2.2 dX3_becomes_19
theorem hd_X3_setLink : yX3_setLink.cls = RX3 ∧ yX3_setLink.cls ≠ "java/lang/invoke/MethodHandle" ∧ yX3_setLink.cls ≠ "java/lang/invoke/VarHandle" ∧ (parseMethodDescriptor yX3_setLink.desc).map (fun d => d.parameters.length) = some 2 := by decide +kernel
set_option maxHeartbeats 4000000 in
set_option maxRecDepth 100000 in
/-- X3_setLink -/
theorem c_X3_setLink (l : Launch) (dd : va_G) (cy : Nat → ClassId) (ad : Nat → Nat) (X : va_W) (u : MS) (sz : Nat) (n : Nat) (hn : n ≤ 4) (h_kept : nI n = u.2.2.2.1) (link v : Int32) : Met l yX3_setLink wsX3_setLink ({ frames := 2, cells := 0, slots := 0, locals := 44 }) (va_Pc [.ref (ad 0), .int link, .int v] (wrW dd cy (wM cy ad u ++ X) sz)) (va_Qi (fun r u9 => u9.2.2.2.2.1 = nI (if inR link (nI 0) (nI 23) then (if inR v (nI 0) (nI 2) then 0 else 2) else 1) ∧ ((if inR link (nI 0) (nI 23) then (if inR v (nI 0) (nI 2) then 0 else 2) else 1) ≠ 0 → u9.1 = u.1 ∧ u9.2.1 = u.2.1 ∧ u9.2.2.2.1 = u.2.2.2.1) ∧ ((if inR link (nI 0) (nI 23) then (if inR v (nI 0) (nI 2) then 0 else 2) else 1) = 0 → r = u.1 1 (0 + link.toNatClampNeg) ∧ svP n u u9 ∧ u9.1 1 = upd (u.1 1) (0 + link.toNatClampNeg) v ∧ u9.2.1 2 = u.2.1 2)) (wB dd cy (fun u9 : MS => wM cy ad u9 ++ X) (va_A (wM cy ad u ++ X) sz)) (va_A (wM cy ad u ++ X) sz)) 0 0 (va_A (wM cy ad u ++ X) sz) := by
  refine Met.ofW (cc := cX3_setLink) (maxL := 3) (ret := (some .int)) (by decide) rfl ?_
  intro p e s m args below meth c s₁ B hml hv
  obtain ⟨rfl, hsz, hP, hK, hD0⟩ := hv
  have hx := B.exec
  have hb := B.bytes
  have hr := B.returns
  have hts := atoms_spec (ws := wsX3_setLink) B.pre
  have hown : s.vm.findClass RX3 = some m.cls := findClass_of_methodNamed B.named
  have hlocks := B.notSynchronized
  subst hsz
  have hD := hD0.self (sz := s.heap.size)
  generalize hAe : va_A (wM cy ad u ++ X) s.heap.size = A at hD ⊢
  have hA : ∀ q : Nat, s.heap.size ≤ q → A q := fun q h => by rw [← hAe]; exact Or.inr h
  have hS : va_S A s.heap s.heap [] := va_S.rf
  have hl := lv_entry ([.ref (ad 0), .int link, .int v]) (n := 3) (Nat.le_of_ble_eq_true rfl)
  rw [lg_entry_eq]
  generalize (lg_sl ([.ref (ad 0), .int link, .int v]) ++ List.replicate (3 - (lg_sl ([.ref (ad 0), .int link, .int v])).length) Slot.unset).toArray = ls at hl ⊢
  have hl : lv_has ls 3 [(0, .ref (ad 0)), (1, .int link), (2, .int v)] := hl
  refine lv_aload_n hx hb dX3_setLink_0 rfl (lv_at hl 0 rfl) ?_
  refine lv_iload_n hx hb dX3_setLink_1 rfl (lv_at hl 1 rfl) ?_
  refine lv_iconst (v := nI 0) hx hb dX3_setLink_2 (by decide) ?_
  refine lv_bipush (v := nI 23) hx hb dX3_setLink_3 (by decide) ?_
  refine vp_callSi (va_runS (As := [.int link, .int (nI 0), .int (nI 23)]) (rest := [.ref (ad 0)]) ⟨hx, hb, hml, hown, hts⟩ (c_X3_in l link (nI 0) (nI 23)) (va_cwS 3 hts gX3_setLink_X3_in rfl rfl rfl hd_X3_in ⟨Nat.le_of_ble_eq_true rfl, Nat.le_of_ble_eq_true rfl⟩) ⟨fun a U g mk q => q, fun U hU hW => ⟨rfl, trivial⟩⟩ rfl rfl hl.1 rfl (lv_room (Nat.le_of_ble_eq_true rfl)) dX3_setLink_5 ⟨Nat.le_of_ble_eq_true rfl, Nat.le_of_ble_eq_true rfl⟩).run (fun r1 hr1 => ?_)
  have hr1 : r1 = bI (inR link (nI 0) (nI 23)) := hr1
  subst hr1
  refine wb_if_ne (tgt := 15) hx hb dX3_setLink_8 (by decide) (fun cC => ?_) (fun cC => ?_)
  · obtain ⟨c0, hc0, ec0⟩ := inR_nat (n := 23) (by decide) cC
    have hl : lv_has ls 3 [(0, .ref (ad 0)), (1, .int (nI c0)), (2, .int v)] := by rw [← ec0]; exact hl
    refine lv_iload_n hx hb dX3_setLink_15 rfl (lv_at hl 2 rfl) ?_
    refine lv_iconst (v := nI 0) hx hb dX3_setLink_16 (by decide) ?_
    refine lv_iconst (v := nI 2) hx hb dX3_setLink_17 (by decide) ?_
    refine vp_callSi (va_runS (As := [.int v, .int (nI 0), .int (nI 2)]) (rest := [.ref (ad 0)]) ⟨hx, hb, hml, hown, hts⟩ (c_X3_in l v (nI 0) (nI 2)) (va_cwS 3 hts gX3_setLink_X3_in rfl rfl rfl hd_X3_in ⟨Nat.le_of_ble_eq_true rfl, Nat.le_of_ble_eq_true rfl⟩) ⟨fun a U g mk q => q, fun U hU hW => ⟨rfl, trivial⟩⟩ rfl rfl hl.1 rfl (lv_room (Nat.le_of_ble_eq_true rfl)) dX3_setLink_18 ⟨Nat.le_of_ble_eq_true rfl, Nat.le_of_ble_eq_true rfl⟩).run (fun r2 hr2 => ?_)
    have hr2 : r2 = bI (inR v (nI 0) (nI 2)) := hr2
    subst hr2
    refine wb_if_ne (tgt := 28) hx hb dX3_setLink_21 (by decide) (fun cV => ?_) (fun cV => ?_)
    · refine lv_iconst (v := nI 0) hx hb dX3_setLink_28 (by decide) ?_
      refine va_put (D := dd) (ci := 5) (v := .int (nI 0)) (ty := .int) (C := RX3) (T := TX3) (N := 15) hx hb hts (fun _ h9 => List.mem_cons_of_mem _ (List.mem_append_left _ (List.mem_append_right _ h9))) tyX3 tyX3_ok nmX3 hown hK hP hD hS 0 (wM_0 cy ad u X) rfl 5 (by decide) (hts (Cond.fieldLink RX3 45 "HeadGridModel" "thrown" "I") (List.mem_of_getElem? (i := 1) rfl)) (fun _ h9 => h9) rfl (tyX3_ok 5 (by decide)) rfl rfl (Nat.le_of_ble_eq_true rfl) dX3_setLink_29 (fun H locs hP hD hS => ?_)
      have hP : va_P dd vwCl (wM cy ad (u.1, u.2.1, u.2.2.1, u.2.2.2.1, (nI 0), u.2.2.2.2.2) ++ X) H := hP
      have hD : va_D A (wM cy ad (u.1, u.2.1, u.2.2.1, u.2.2.2.1, (nI 0), u.2.2.2.2.2) ++ X) := hD
      obtain ⟨us3, hus3⟩ : ∃ z9z : MS, z9z = (u.1, u.2.1, u.2.2.1, u.2.2.2.1, (nI 0), u.2.2.2.2.2) := ⟨_, rfl⟩
      rw [← hus3] at hP hD
      have pus3_1 : us3.1 = u.1 := by rw [hus3]
      have pus3_21 : us3.2.1 = u.2.1 := by rw [hus3]
      have pus3_221 : us3.2.2.1 = u.2.2.1 := by rw [hus3]
      have pus3_kept : us3.2.2.2.1 = u.2.2.2.1 := by rw [hus3]
      have h_kept : (nI n) = us3.2.2.2.1 := by rw [pus3_kept]; exact h_kept
      have h_thrown : (nI 0) = us3.2.2.2.2.1 := by rw [hus3]
      have pus3_whole : us3.2.2.2.2.2.1 = u.2.2.2.2.2.1 := by rw [hus3]
      have pus3_hash : us3.2.2.2.2.2.2 = u.2.2.2.2.2.2 := by rw [hus3]
      have qus3_1 : us3.1 = u.1 := pus3_1.trans rfl
      have qus3_21 : us3.2.1 = u.2.1 := pus3_21.trans rfl
      have qus3_k : us3.2.2.2.1 = u.2.2.2.1 := pus3_kept.trans rfl
      refine lv_aload_n hx hb dX3_setLink_32 rfl (lv_at hl 0 rfl) ?_
      refine va_get (D := dd) (ci := 5) (v := .int (nI 0)) (C := RX3) (T := TX3) (N := 15) hx hb hts (fun _ h9 => List.mem_cons_of_mem _ (List.mem_append_left _ (List.mem_append_right _ h9))) hown hK hP 0 (wM_0 cy ad us3 X) rfl 5 (by decide) (hts (Cond.fieldLink RX3 45 "HeadGridModel" "thrown" "I") (List.mem_of_getElem? (i := 1) rfl)) (fun _ h9 => h9) (by rw [h_thrown]; rfl) dX3_setLink_33 ?_
      refine wn_if_eq (tgt := 43) hx hb dX3_setLink_36 (by decide) (by omega) (fun _ => ?_) (fun c4 => (by first | exact absurd (by decide) c4 | exact absurd c4 (by decide)))
      refine lv_aload_n hx hb dX3_setLink_43 rfl (lv_at hl 0 rfl) ?_
      refine lv_iconst (v := nI 0) hx hb dX3_setLink_44 (by decide) ?_
      refine lv_iload_n hx hb dX3_setLink_45 rfl (lv_at hl 1 rfl) ?_
      refine wn_iadd hx hb dX3_setLink_46 ?_
      refine lv_iload_n hx hb dX3_setLink_47 rfl (lv_at hl 2 rfl) ?_
      refine wc_calli (va_runV (As := [.int (nI (0 + c0)), .int v]) (rest := []) ⟨hx, hb, hml, hown, hts⟩ (c_X3_becomes l dd cy ad X us3 _ n hn h_kept (0 + c0) (by omega) v) (cwV 2 hts gX3_setLink_X3_becomes rfl rfl rfl hd_X3_becomes ⟨Nat.le_of_ble_eq_true rfl, Nat.le_of_ble_eq_true rfl⟩) (wrW_V hP hK hD (wM_0 cy ad us3 X) rfl) rfl rfl hl.1 rfl (lv_room (Nat.le_of_ble_eq_true rfl)) dX3_setLink_48 ⟨Nat.le_of_ble_eq_true rfl, Nat.le_of_ble_eq_true rfl⟩) hD hS hA (fun r5 us6 H locs w7 hP hD hS => ?_)
      obtain ⟨hr5, hsv, hb1, hb2, hb3⟩ := w7
      subst hr5
      exact W.iret (v := (us3.1 1 (0 + c0))) hx hb hr (fun t ht hW => ⟨⟨(us3.1 1 (0 + c0)), us6, rfl, (by rw [cC, cV]; exact ⟨by rw [show us6.2.2.2.2.1 = us3.2.2.2.2.1 by rw [hb3]]; exact h_thrown.symm, fun q9 => absurd rfl q9, fun _ => ⟨by rw [qus3_1, ec0, nI_clamp (by omega)], ⟨hsv.1, fun i9 hi9 j9 hj9 => (hsv.2.1 i9 hi9 j9 hj9).trans (by rw [qus3_1]), fun j9 hj9 => (hsv.2.2.1 j9 hj9).trans (by rw [qus3_1]), fun i9 hi9 j9 hj9 => (hsv.2.2.2.1 i9 hi9 j9 hj9).trans (by rw [qus3_21]), fun j9 hj9 => (hsv.2.2.2.2 j9 hj9).trans (by rw [qus3_21])⟩, by rw [hb1, qus3_1, ec0, nI_clamp (by omega)], by rw [hb2 2 (by decide), qus3_21]⟩⟩), by rw [ht]; exact hP, va_K.moved hW.alike hK, hD⟩, hS.F ht⟩) hS.2.2 dX3_setLink_51
    · refine lv_iconst (v := nI 2) hx hb dX3_setLink_24 (by decide) ?_
      refine lv_goto (tgt := 29) hx hb dX3_setLink_25 (by decide) ?_
      refine va_put (D := dd) (ci := 5) (v := .int (nI 2)) (ty := .int) (C := RX3) (T := TX3) (N := 15) hx hb hts (fun _ h9 => List.mem_cons_of_mem _ (List.mem_append_left _ (List.mem_append_right _ h9))) tyX3 tyX3_ok nmX3 hown hK hP hD hS 0 (wM_0 cy ad u X) rfl 5 (by decide) (hts (Cond.fieldLink RX3 45 "HeadGridModel" "thrown" "I") (List.mem_of_getElem? (i := 1) rfl)) (fun _ h9 => h9) rfl (tyX3_ok 5 (by decide)) rfl rfl (Nat.le_of_ble_eq_true rfl) dX3_setLink_29 (fun H locs hP hD hS => ?_)
      have hP : va_P dd vwCl (wM cy ad (u.1, u.2.1, u.2.2.1, u.2.2.2.1, (nI 2), u.2.2.2.2.2) ++ X) H := hP
      have hD : va_D A (wM cy ad (u.1, u.2.1, u.2.2.1, u.2.2.2.1, (nI 2), u.2.2.2.2.2) ++ X) := hD
      obtain ⟨us8, hus8⟩ : ∃ z9z : MS, z9z = (u.1, u.2.1, u.2.2.1, u.2.2.2.1, (nI 2), u.2.2.2.2.2) := ⟨_, rfl⟩
      rw [← hus8] at hP hD
      have pus8_1 : us8.1 = u.1 := by rw [hus8]
      have pus8_21 : us8.2.1 = u.2.1 := by rw [hus8]
      have pus8_221 : us8.2.2.1 = u.2.2.1 := by rw [hus8]
      have pus8_kept : us8.2.2.2.1 = u.2.2.2.1 := by rw [hus8]
      have h_kept : (nI n) = us8.2.2.2.1 := by rw [pus8_kept]; exact h_kept
      have h_thrown : (nI 2) = us8.2.2.2.2.1 := by rw [hus8]
      have pus8_whole : us8.2.2.2.2.2.1 = u.2.2.2.2.2.1 := by rw [hus8]
      have pus8_hash : us8.2.2.2.2.2.2 = u.2.2.2.2.2.2 := by rw [hus8]
      have qus8_1 : us8.1 = u.1 := pus8_1.trans rfl
      have qus8_21 : us8.2.1 = u.2.1 := pus8_21.trans rfl
      have qus8_k : us8.2.2.2.1 = u.2.2.2.1 := pus8_kept.trans rfl
      refine lv_aload_n hx hb dX3_setLink_32 rfl (lv_at hl 0 rfl) ?_
      refine va_get (D := dd) (ci := 5) (v := .int (nI 2)) (C := RX3) (T := TX3) (N := 15) hx hb hts (fun _ h9 => List.mem_cons_of_mem _ (List.mem_append_left _ (List.mem_append_right _ h9))) hown hK hP 0 (wM_0 cy ad us8 X) rfl 5 (by decide) (hts (Cond.fieldLink RX3 45 "HeadGridModel" "thrown" "I") (List.mem_of_getElem? (i := 1) rfl)) (fun _ h9 => h9) (by rw [h_thrown]; rfl) dX3_setLink_33 ?_
      refine wn_if_eq (tgt := 43) hx hb dX3_setLink_36 (by decide) (by omega) (fun c9 => (by first | exact absurd c9 (by decide) | exact absurd (by decide) c9)) (fun _ => ?_)
      refine lv_iconst (v := nI 0) hx hb dX3_setLink_39 (by decide) ?_
      refine lv_goto (tgt := 51) hx hb dX3_setLink_40 (by decide) ?_
      exact W.iret (v := (nI 0)) hx hb hr (fun t ht hW => ⟨⟨(nI 0), us8, rfl, (by rw [cC, cV]; exact ⟨h_thrown.symm, fun _ => ⟨qus8_1, qus8_21, qus8_k⟩, fun q9 => absurd q9 (by simp)⟩), by rw [ht]; exact hP, va_K.moved hW.alike hK, hD⟩, hS.F ht⟩) hS.2.2 dX3_setLink_51
  · refine lv_iconst (v := nI 1) hx hb dX3_setLink_11 (by decide) ?_
    refine lv_goto (tgt := 29) hx hb dX3_setLink_12 (by decide) ?_
    refine va_put (D := dd) (ci := 5) (v := .int (nI 1)) (ty := .int) (C := RX3) (T := TX3) (N := 15) hx hb hts (fun _ h9 => List.mem_cons_of_mem _ (List.mem_append_left _ (List.mem_append_right _ h9))) tyX3 tyX3_ok nmX3 hown hK hP hD hS 0 (wM_0 cy ad u X) rfl 5 (by decide) (hts (Cond.fieldLink RX3 45 "HeadGridModel" "thrown" "I") (List.mem_of_getElem? (i := 1) rfl)) (fun _ h9 => h9) rfl (tyX3_ok 5 (by decide)) rfl rfl (Nat.le_of_ble_eq_true rfl) dX3_setLink_29 (fun H locs hP hD hS => ?_)
    have hP : va_P dd vwCl (wM cy ad (u.1, u.2.1, u.2.2.1, u.2.2.2.1, (nI 1), u.2.2.2.2.2) ++ X) H := hP
    have hD : va_D A (wM cy ad (u.1, u.2.1, u.2.2.1, u.2.2.2.1, (nI 1), u.2.2.2.2.2) ++ X) := hD
    obtain ⟨us10, hus10⟩ : ∃ z9z : MS, z9z = (u.1, u.2.1, u.2.2.1, u.2.2.2.1, (nI 1), u.2.2.2.2.2) := ⟨_, rfl⟩
    rw [← hus10] at hP hD
    have pus10_1 : us10.1 = u.1 := by rw [hus10]
    have pus10_21 : us10.2.1 = u.2.1 := by rw [hus10]
    have pus10_221 : us10.2.2.1 = u.2.2.1 := by rw [hus10]
    have pus10_kept : us10.2.2.2.1 = u.2.2.2.1 := by rw [hus10]
    have h_kept : (nI n) = us10.2.2.2.1 := by rw [pus10_kept]; exact h_kept
    have h_thrown : (nI 1) = us10.2.2.2.2.1 := by rw [hus10]
    have pus10_whole : us10.2.2.2.2.2.1 = u.2.2.2.2.2.1 := by rw [hus10]
    have pus10_hash : us10.2.2.2.2.2.2 = u.2.2.2.2.2.2 := by rw [hus10]
    have qus10_1 : us10.1 = u.1 := pus10_1.trans rfl
    have qus10_21 : us10.2.1 = u.2.1 := pus10_21.trans rfl
    have qus10_k : us10.2.2.2.1 = u.2.2.2.1 := pus10_kept.trans rfl
    refine lv_aload_n hx hb dX3_setLink_32 rfl (lv_at hl 0 rfl) ?_
    refine va_get (D := dd) (ci := 5) (v := .int (nI 1)) (C := RX3) (T := TX3) (N := 15) hx hb hts (fun _ h9 => List.mem_cons_of_mem _ (List.mem_append_left _ (List.mem_append_right _ h9))) hown hK hP 0 (wM_0 cy ad us10 X) rfl 5 (by decide) (hts (Cond.fieldLink RX3 45 "HeadGridModel" "thrown" "I") (List.mem_of_getElem? (i := 1) rfl)) (fun _ h9 => h9) (by rw [h_thrown]; rfl) dX3_setLink_33 ?_
    refine wn_if_eq (tgt := 43) hx hb dX3_setLink_36 (by decide) (by omega) (fun c11 => (by first | exact absurd c11 (by decide) | exact absurd (by decide) c11)) (fun _ => ?_)
    refine lv_iconst (v := nI 0) hx hb dX3_setLink_39 (by decide) ?_
    refine lv_goto (tgt := 51) hx hb dX3_setLink_40 (by decide) ?_
    exact W.iret (v := (nI 0)) hx hb hr (fun t ht hW => ⟨⟨(nI 0), us10, rfl, (by rw [cC]; exact ⟨h_thrown.symm, fun _ => ⟨qus10_1, qus10_21, qus10_k⟩, fun q9 => absurd q9 (by simp)⟩), by rw [ht]; exact hP, va_K.moved hW.alike hK, hD⟩, hS.F ht⟩) hS.2.2 dX3_setLink_51
theorem hd_X3_setEdge : yX3_setEdge.cls = RX3 ∧ yX3_setEdge.cls ≠ "java/lang/invoke/MethodHandle" ∧ yX3_setEdge.cls ≠ "java/lang/invoke/VarHandle" ∧ (parseMethodDescriptor yX3_setEdge.desc).map (fun d => d.parameters.length) = some 2 := by decide +kernel
set_option maxHeartbeats 4000000 in
set_option maxRecDepth 100000 in
/-- X3_setEdge -/
theorem c_X3_setEdge (l : Launch) (dd : va_G) (cy : Nat → ClassId) (ad : Nat → Nat) (X : va_W) (u : MS) (sz : Nat) (n : Nat) (hn : n ≤ 4) (h_kept : nI n = u.2.2.2.1) (point v : Int32) : Met l yX3_setEdge wsX3_setEdge ({ frames := 2, cells := 0, slots := 0, locals := 44 }) (va_Pc [.ref (ad 0), .int point, .int v] (wrW dd cy (wM cy ad u ++ X) sz)) (va_Qi (fun r u9 => u9.2.2.2.2.1 = nI (if inR point (nI 0) (nI 11) then (if inR v (nI 0) (nI 1000) then 0 else 2) else 1) ∧ ((if inR point (nI 0) (nI 11) then (if inR v (nI 0) (nI 1000) then 0 else 2) else 1) ≠ 0 → u9.1 = u.1 ∧ u9.2.1 = u.2.1 ∧ u9.2.2.2.1 = u.2.2.2.1) ∧ ((if inR point (nI 0) (nI 11) then (if inR v (nI 0) (nI 1000) then 0 else 2) else 1) = 0 → r = u.1 1 (24 + point.toNatClampNeg) ∧ svP n u u9 ∧ u9.1 1 = upd (u.1 1) (24 + point.toNatClampNeg) v ∧ u9.2.1 2 = u.2.1 2)) (wB dd cy (fun u9 : MS => wM cy ad u9 ++ X) (va_A (wM cy ad u ++ X) sz)) (va_A (wM cy ad u ++ X) sz)) 0 0 (va_A (wM cy ad u ++ X) sz) := by
  refine Met.ofW (cc := cX3_setEdge) (maxL := 3) (ret := (some .int)) (by decide) rfl ?_
  intro p e s m args below meth c s₁ B hml hv
  obtain ⟨rfl, hsz, hP, hK, hD0⟩ := hv
  have hx := B.exec
  have hb := B.bytes
  have hr := B.returns
  have hts := atoms_spec (ws := wsX3_setEdge) B.pre
  have hown : s.vm.findClass RX3 = some m.cls := findClass_of_methodNamed B.named
  have hlocks := B.notSynchronized
  subst hsz
  have hD := hD0.self (sz := s.heap.size)
  generalize hAe : va_A (wM cy ad u ++ X) s.heap.size = A at hD ⊢
  have hA : ∀ q : Nat, s.heap.size ≤ q → A q := fun q h => by rw [← hAe]; exact Or.inr h
  have hS : va_S A s.heap s.heap [] := va_S.rf
  have hl := lv_entry ([.ref (ad 0), .int point, .int v]) (n := 3) (Nat.le_of_ble_eq_true rfl)
  rw [lg_entry_eq]
  generalize (lg_sl ([.ref (ad 0), .int point, .int v]) ++ List.replicate (3 - (lg_sl ([.ref (ad 0), .int point, .int v])).length) Slot.unset).toArray = ls at hl ⊢
  have hl : lv_has ls 3 [(0, .ref (ad 0)), (1, .int point), (2, .int v)] := hl
  refine lv_aload_n hx hb dX3_setEdge_0 rfl (lv_at hl 0 rfl) ?_
  refine lv_iload_n hx hb dX3_setEdge_1 rfl (lv_at hl 1 rfl) ?_
  refine lv_iconst (v := nI 0) hx hb dX3_setEdge_2 (by decide) ?_
  refine lv_bipush (v := nI 11) hx hb dX3_setEdge_3 (by decide) ?_
  refine vp_callSi (va_runS (As := [.int point, .int (nI 0), .int (nI 11)]) (rest := [.ref (ad 0)]) ⟨hx, hb, hml, hown, hts⟩ (c_X3_in l point (nI 0) (nI 11)) (va_cwS 3 hts gX3_setEdge_X3_in rfl rfl rfl hd_X3_in ⟨Nat.le_of_ble_eq_true rfl, Nat.le_of_ble_eq_true rfl⟩) ⟨fun a U g mk q => q, fun U hU hW => ⟨rfl, trivial⟩⟩ rfl rfl hl.1 rfl (lv_room (Nat.le_of_ble_eq_true rfl)) dX3_setEdge_5 ⟨Nat.le_of_ble_eq_true rfl, Nat.le_of_ble_eq_true rfl⟩).run (fun r1 hr1 => ?_)
  have hr1 : r1 = bI (inR point (nI 0) (nI 11)) := hr1
  subst hr1
  refine wb_if_ne (tgt := 15) hx hb dX3_setEdge_8 (by decide) (fun cC => ?_) (fun cC => ?_)
  · obtain ⟨c0, hc0, ec0⟩ := inR_nat (n := 11) (by decide) cC
    have hl : lv_has ls 3 [(0, .ref (ad 0)), (1, .int (nI c0)), (2, .int v)] := by rw [← ec0]; exact hl
    refine lv_iload_n hx hb dX3_setEdge_15 rfl (lv_at hl 2 rfl) ?_
    refine lv_iconst (v := nI 0) hx hb dX3_setEdge_16 (by decide) ?_
    refine lv_sipush (v := nI 1000) hx hb dX3_setEdge_17 (by decide) ?_
    refine vp_callSi (va_runS (As := [.int v, .int (nI 0), .int (nI 1000)]) (rest := [.ref (ad 0)]) ⟨hx, hb, hml, hown, hts⟩ (c_X3_in l v (nI 0) (nI 1000)) (va_cwS 3 hts gX3_setEdge_X3_in rfl rfl rfl hd_X3_in ⟨Nat.le_of_ble_eq_true rfl, Nat.le_of_ble_eq_true rfl⟩) ⟨fun a U g mk q => q, fun U hU hW => ⟨rfl, trivial⟩⟩ rfl rfl hl.1 rfl (lv_room (Nat.le_of_ble_eq_true rfl)) dX3_setEdge_20 ⟨Nat.le_of_ble_eq_true rfl, Nat.le_of_ble_eq_true rfl⟩).run (fun r2 hr2 => ?_)
    have hr2 : r2 = bI (inR v (nI 0) (nI 1000)) := hr2
    subst hr2
    refine wb_if_ne (tgt := 30) hx hb dX3_setEdge_23 (by decide) (fun cV => ?_) (fun cV => ?_)
    · refine lv_iconst (v := nI 0) hx hb dX3_setEdge_30 (by decide) ?_
      refine va_put (D := dd) (ci := 5) (v := .int (nI 0)) (ty := .int) (C := RX3) (T := TX3) (N := 15) hx hb hts (fun _ h9 => List.mem_cons_of_mem _ (List.mem_append_left _ (List.mem_append_right _ h9))) tyX3 tyX3_ok nmX3 hown hK hP hD hS 0 (wM_0 cy ad u X) rfl 5 (by decide) (hts (Cond.fieldLink RX3 45 "HeadGridModel" "thrown" "I") (List.mem_of_getElem? (i := 1) rfl)) (fun _ h9 => h9) rfl (tyX3_ok 5 (by decide)) rfl rfl (Nat.le_of_ble_eq_true rfl) dX3_setEdge_31 (fun H locs hP hD hS => ?_)
      have hP : va_P dd vwCl (wM cy ad (u.1, u.2.1, u.2.2.1, u.2.2.2.1, (nI 0), u.2.2.2.2.2) ++ X) H := hP
      have hD : va_D A (wM cy ad (u.1, u.2.1, u.2.2.1, u.2.2.2.1, (nI 0), u.2.2.2.2.2) ++ X) := hD
      obtain ⟨us3, hus3⟩ : ∃ z9z : MS, z9z = (u.1, u.2.1, u.2.2.1, u.2.2.2.1, (nI 0), u.2.2.2.2.2) := ⟨_, rfl⟩
      rw [← hus3] at hP hD
      have pus3_1 : us3.1 = u.1 := by rw [hus3]
      have pus3_21 : us3.2.1 = u.2.1 := by rw [hus3]
      have pus3_221 : us3.2.2.1 = u.2.2.1 := by rw [hus3]
      have pus3_kept : us3.2.2.2.1 = u.2.2.2.1 := by rw [hus3]
      have h_kept : (nI n) = us3.2.2.2.1 := by rw [pus3_kept]; exact h_kept
      have h_thrown : (nI 0) = us3.2.2.2.2.1 := by rw [hus3]
      have pus3_whole : us3.2.2.2.2.2.1 = u.2.2.2.2.2.1 := by rw [hus3]
      have pus3_hash : us3.2.2.2.2.2.2 = u.2.2.2.2.2.2 := by rw [hus3]
      have qus3_1 : us3.1 = u.1 := pus3_1.trans rfl
      have qus3_21 : us3.2.1 = u.2.1 := pus3_21.trans rfl
      have qus3_k : us3.2.2.2.1 = u.2.2.2.1 := pus3_kept.trans rfl
      refine lv_aload_n hx hb dX3_setEdge_34 rfl (lv_at hl 0 rfl) ?_
      refine va_get (D := dd) (ci := 5) (v := .int (nI 0)) (C := RX3) (T := TX3) (N := 15) hx hb hts (fun _ h9 => List.mem_cons_of_mem _ (List.mem_append_left _ (List.mem_append_right _ h9))) hown hK hP 0 (wM_0 cy ad us3 X) rfl 5 (by decide) (hts (Cond.fieldLink RX3 45 "HeadGridModel" "thrown" "I") (List.mem_of_getElem? (i := 1) rfl)) (fun _ h9 => h9) (by rw [h_thrown]; rfl) dX3_setEdge_35 ?_
      refine wn_if_eq (tgt := 45) hx hb dX3_setEdge_38 (by decide) (by omega) (fun _ => ?_) (fun c4 => (by first | exact absurd (by decide) c4 | exact absurd c4 (by decide)))
      refine lv_aload_n hx hb dX3_setEdge_45 rfl (lv_at hl 0 rfl) ?_
      refine lv_bipush (v := nI 24) hx hb dX3_setEdge_46 (by decide) ?_
      refine lv_iload_n hx hb dX3_setEdge_48 rfl (lv_at hl 1 rfl) ?_
      refine wn_iadd hx hb dX3_setEdge_49 ?_
      refine lv_iload_n hx hb dX3_setEdge_50 rfl (lv_at hl 2 rfl) ?_
      refine wc_calli (va_runV (As := [.int (nI (24 + c0)), .int v]) (rest := []) ⟨hx, hb, hml, hown, hts⟩ (c_X3_becomes l dd cy ad X us3 _ n hn h_kept (24 + c0) (by omega) v) (cwV 2 hts gX3_setEdge_X3_becomes rfl rfl rfl hd_X3_becomes ⟨Nat.le_of_ble_eq_true rfl, Nat.le_of_ble_eq_true rfl⟩) (wrW_V hP hK hD (wM_0 cy ad us3 X) rfl) rfl rfl hl.1 rfl (lv_room (Nat.le_of_ble_eq_true rfl)) dX3_setEdge_51 ⟨Nat.le_of_ble_eq_true rfl, Nat.le_of_ble_eq_true rfl⟩) hD hS hA (fun r5 us6 H locs w7 hP hD hS => ?_)
      obtain ⟨hr5, hsv, hb1, hb2, hb3⟩ := w7
      subst hr5
      exact W.iret (v := (us3.1 1 (24 + c0))) hx hb hr (fun t ht hW => ⟨⟨(us3.1 1 (24 + c0)), us6, rfl, (by rw [cC, cV]; exact ⟨by rw [show us6.2.2.2.2.1 = us3.2.2.2.2.1 by rw [hb3]]; exact h_thrown.symm, fun q9 => absurd rfl q9, fun _ => ⟨by rw [qus3_1, ec0, nI_clamp (by omega)], ⟨hsv.1, fun i9 hi9 j9 hj9 => (hsv.2.1 i9 hi9 j9 hj9).trans (by rw [qus3_1]), fun j9 hj9 => (hsv.2.2.1 j9 hj9).trans (by rw [qus3_1]), fun i9 hi9 j9 hj9 => (hsv.2.2.2.1 i9 hi9 j9 hj9).trans (by rw [qus3_21]), fun j9 hj9 => (hsv.2.2.2.2 j9 hj9).trans (by rw [qus3_21])⟩, by rw [hb1, qus3_1, ec0, nI_clamp (by omega)], by rw [hb2 2 (by decide), qus3_21]⟩⟩), by rw [ht]; exact hP, va_K.moved hW.alike hK, hD⟩, hS.F ht⟩) hS.2.2 dX3_setEdge_54
    · refine lv_iconst (v := nI 2) hx hb dX3_setEdge_26 (by decide) ?_
      refine lv_goto (tgt := 31) hx hb dX3_setEdge_27 (by decide) ?_
      refine va_put (D := dd) (ci := 5) (v := .int (nI 2)) (ty := .int) (C := RX3) (T := TX3) (N := 15) hx hb hts (fun _ h9 => List.mem_cons_of_mem _ (List.mem_append_left _ (List.mem_append_right _ h9))) tyX3 tyX3_ok nmX3 hown hK hP hD hS 0 (wM_0 cy ad u X) rfl 5 (by decide) (hts (Cond.fieldLink RX3 45 "HeadGridModel" "thrown" "I") (List.mem_of_getElem? (i := 1) rfl)) (fun _ h9 => h9) rfl (tyX3_ok 5 (by decide)) rfl rfl (Nat.le_of_ble_eq_true rfl) dX3_setEdge_31 (fun H locs hP hD hS => ?_)
      have hP : va_P dd vwCl (wM cy ad (u.1, u.2.1, u.2.2.1, u.2.2.2.1, (nI 2), u.2.2.2.2.2) ++ X) H := hP
      have hD : va_D A (wM cy ad (u.1, u.2.1, u.2.2.1, u.2.2.2.1, (nI 2), u.2.2.2.2.2) ++ X) := hD
      obtain ⟨us8, hus8⟩ : ∃ z9z : MS, z9z = (u.1, u.2.1, u.2.2.1, u.2.2.2.1, (nI 2), u.2.2.2.2.2) := ⟨_, rfl⟩
      rw [← hus8] at hP hD
      have pus8_1 : us8.1 = u.1 := by rw [hus8]
      have pus8_21 : us8.2.1 = u.2.1 := by rw [hus8]
      have pus8_221 : us8.2.2.1 = u.2.2.1 := by rw [hus8]
      have pus8_kept : us8.2.2.2.1 = u.2.2.2.1 := by rw [hus8]
      have h_kept : (nI n) = us8.2.2.2.1 := by rw [pus8_kept]; exact h_kept
      have h_thrown : (nI 2) = us8.2.2.2.2.1 := by rw [hus8]
      have pus8_whole : us8.2.2.2.2.2.1 = u.2.2.2.2.2.1 := by rw [hus8]
      have pus8_hash : us8.2.2.2.2.2.2 = u.2.2.2.2.2.2 := by rw [hus8]
      have qus8_1 : us8.1 = u.1 := pus8_1.trans rfl
      have qus8_21 : us8.2.1 = u.2.1 := pus8_21.trans rfl
      have qus8_k : us8.2.2.2.1 = u.2.2.2.1 := pus8_kept.trans rfl
      refine lv_aload_n hx hb dX3_setEdge_34 rfl (lv_at hl 0 rfl) ?_
      refine va_get (D := dd) (ci := 5) (v := .int (nI 2)) (C := RX3) (T := TX3) (N := 15) hx hb hts (fun _ h9 => List.mem_cons_of_mem _ (List.mem_append_left _ (List.mem_append_right _ h9))) hown hK hP 0 (wM_0 cy ad us8 X) rfl 5 (by decide) (hts (Cond.fieldLink RX3 45 "HeadGridModel" "thrown" "I") (List.mem_of_getElem? (i := 1) rfl)) (fun _ h9 => h9) (by rw [h_thrown]; rfl) dX3_setEdge_35 ?_
      refine wn_if_eq (tgt := 45) hx hb dX3_setEdge_38 (by decide) (by omega) (fun c9 => (by first | exact absurd c9 (by decide) | exact absurd (by decide) c9)) (fun _ => ?_)
      refine lv_iconst (v := nI 0) hx hb dX3_setEdge_41 (by decide) ?_
      refine lv_goto (tgt := 54) hx hb dX3_setEdge_42 (by decide) ?_
      exact W.iret (v := (nI 0)) hx hb hr (fun t ht hW => ⟨⟨(nI 0), us8, rfl, (by rw [cC, cV]; exact ⟨h_thrown.symm, fun _ => ⟨qus8_1, qus8_21, qus8_k⟩, fun q9 => absurd q9 (by simp)⟩), by rw [ht]; exact hP, va_K.moved hW.alike hK, hD⟩, hS.F ht⟩) hS.2.2 dX3_setEdge_54
  · refine lv_iconst (v := nI 1) hx hb dX3_setEdge_11 (by decide) ?_
    refine lv_goto (tgt := 31) hx hb dX3_setEdge_12 (by decide) ?_
    refine va_put (D := dd) (ci := 5) (v := .int (nI 1)) (ty := .int) (C := RX3) (T := TX3) (N := 15) hx hb hts (fun _ h9 => List.mem_cons_of_mem _ (List.mem_append_left _ (List.mem_append_right _ h9))) tyX3 tyX3_ok nmX3 hown hK hP hD hS 0 (wM_0 cy ad u X) rfl 5 (by decide) (hts (Cond.fieldLink RX3 45 "HeadGridModel" "thrown" "I") (List.mem_of_getElem? (i := 1) rfl)) (fun _ h9 => h9) rfl (tyX3_ok 5 (by decide)) rfl rfl (Nat.le_of_ble_eq_true rfl) dX3_setEdge_31 (fun H locs hP hD hS => ?_)
    have hP : va_P dd vwCl (wM cy ad (u.1, u.2.1, u.2.2.1, u.2.2.2.1, (nI 1), u.2.2.2.2.2) ++ X) H := hP
    have hD : va_D A (wM cy ad (u.1, u.2.1, u.2.2.1, u.2.2.2.1, (nI 1), u.2.2.2.2.2) ++ X) := hD
    obtain ⟨us10, hus10⟩ : ∃ z9z : MS, z9z = (u.1, u.2.1, u.2.2.1, u.2.2.2.1, (nI 1), u.2.2.2.2.2) := ⟨_, rfl⟩
    rw [← hus10] at hP hD
    have pus10_1 : us10.1 = u.1 := by rw [hus10]
    have pus10_21 : us10.2.1 = u.2.1 := by rw [hus10]
    have pus10_221 : us10.2.2.1 = u.2.2.1 := by rw [hus10]
    have pus10_kept : us10.2.2.2.1 = u.2.2.2.1 := by rw [hus10]
    have h_kept : (nI n) = us10.2.2.2.1 := by rw [pus10_kept]; exact h_kept
    have h_thrown : (nI 1) = us10.2.2.2.2.1 := by rw [hus10]
    have pus10_whole : us10.2.2.2.2.2.1 = u.2.2.2.2.2.1 := by rw [hus10]
    have pus10_hash : us10.2.2.2.2.2.2 = u.2.2.2.2.2.2 := by rw [hus10]
    have qus10_1 : us10.1 = u.1 := pus10_1.trans rfl
    have qus10_21 : us10.2.1 = u.2.1 := pus10_21.trans rfl
    have qus10_k : us10.2.2.2.1 = u.2.2.2.1 := pus10_kept.trans rfl
    refine lv_aload_n hx hb dX3_setEdge_34 rfl (lv_at hl 0 rfl) ?_
    refine va_get (D := dd) (ci := 5) (v := .int (nI 1)) (C := RX3) (T := TX3) (N := 15) hx hb hts (fun _ h9 => List.mem_cons_of_mem _ (List.mem_append_left _ (List.mem_append_right _ h9))) hown hK hP 0 (wM_0 cy ad us10 X) rfl 5 (by decide) (hts (Cond.fieldLink RX3 45 "HeadGridModel" "thrown" "I") (List.mem_of_getElem? (i := 1) rfl)) (fun _ h9 => h9) (by rw [h_thrown]; rfl) dX3_setEdge_35 ?_
    refine wn_if_eq (tgt := 45) hx hb dX3_setEdge_38 (by decide) (by omega) (fun c11 => (by first | exact absurd c11 (by decide) | exact absurd (by decide) c11)) (fun _ => ?_)
    refine lv_iconst (v := nI 0) hx hb dX3_setEdge_41 (by decide) ?_
    refine lv_goto (tgt := 54) hx hb dX3_setEdge_42 (by decide) ?_
    exact W.iret (v := (nI 0)) hx hb hr (fun t ht hW => ⟨⟨(nI 0), us10, rfl, (by rw [cC]; exact ⟨h_thrown.symm, fun _ => ⟨qus10_1, qus10_21, qus10_k⟩, fun q9 => absurd q9 (by simp)⟩), by rw [ht]; exact hP, va_K.moved hW.alike hK, hD⟩, hS.F ht⟩) hS.2.2 dX3_setEdge_54
theorem hd_X3_setRecharge : yX3_setRecharge.cls = RX3 ∧ yX3_setRecharge.cls ≠ "java/lang/invoke/MethodHandle" ∧ yX3_setRecharge.cls ≠ "java/lang/invoke/VarHandle" ∧ (parseMethodDescriptor yX3_setRecharge.desc).map (fun d => d.parameters.length) = some 2 := by decide +kernel
set_option maxHeartbeats 4000000 in
set_option maxRecDepth 100000 in
/-- X3_setRecharge -/
theorem c_X3_setRecharge (l : Launch) (dd : va_G) (cy : Nat → ClassId) (ad : Nat → Nat) (X : va_W) (u : MS) (sz : Nat) (n : Nat) (hn : n ≤ 4) (h_kept : nI n = u.2.2.2.1) (cell v : Int32) : Met l yX3_setRecharge wsX3_setRecharge ({ frames := 2, cells := 0, slots := 0, locals := 44 }) (va_Pc [.ref (ad 0), .int cell, .int v] (wrW dd cy (wM cy ad u ++ X) sz)) (va_Qi (fun r u9 => u9.2.2.2.2.1 = nI (if inR cell (nI 0) (nI 8) then (if inR v (nI 0) (nI 1000) then 0 else 2) else 1) ∧ ((if inR cell (nI 0) (nI 8) then (if inR v (nI 0) (nI 1000) then 0 else 2) else 1) ≠ 0 → u9.1 = u.1 ∧ u9.2.1 = u.2.1 ∧ u9.2.2.2.1 = u.2.2.2.1) ∧ ((if inR cell (nI 0) (nI 8) then (if inR v (nI 0) (nI 1000) then 0 else 2) else 1) = 0 → r = u.1 1 (36 + cell.toNatClampNeg) ∧ svP n u u9 ∧ u9.1 1 = upd (u.1 1) (36 + cell.toNatClampNeg) v ∧ u9.2.1 2 = u.2.1 2)) (wB dd cy (fun u9 : MS => wM cy ad u9 ++ X) (va_A (wM cy ad u ++ X) sz)) (va_A (wM cy ad u ++ X) sz)) 0 0 (va_A (wM cy ad u ++ X) sz) := by
  refine Met.ofW (cc := cX3_setRecharge) (maxL := 3) (ret := (some .int)) (by decide) rfl ?_
  intro p e s m args below meth c s₁ B hml hv
  obtain ⟨rfl, hsz, hP, hK, hD0⟩ := hv
  have hx := B.exec
  have hb := B.bytes
  have hr := B.returns
  have hts := atoms_spec (ws := wsX3_setRecharge) B.pre
  have hown : s.vm.findClass RX3 = some m.cls := findClass_of_methodNamed B.named
  have hlocks := B.notSynchronized
  subst hsz
  have hD := hD0.self (sz := s.heap.size)
  generalize hAe : va_A (wM cy ad u ++ X) s.heap.size = A at hD ⊢
  have hA : ∀ q : Nat, s.heap.size ≤ q → A q := fun q h => by rw [← hAe]; exact Or.inr h
  have hS : va_S A s.heap s.heap [] := va_S.rf
  have hl := lv_entry ([.ref (ad 0), .int cell, .int v]) (n := 3) (Nat.le_of_ble_eq_true rfl)
  rw [lg_entry_eq]
  generalize (lg_sl ([.ref (ad 0), .int cell, .int v]) ++ List.replicate (3 - (lg_sl ([.ref (ad 0), .int cell, .int v])).length) Slot.unset).toArray = ls at hl ⊢
  have hl : lv_has ls 3 [(0, .ref (ad 0)), (1, .int cell), (2, .int v)] := hl
  refine lv_aload_n hx hb dX3_setRecharge_0 rfl (lv_at hl 0 rfl) ?_
  refine lv_iload_n hx hb dX3_setRecharge_1 rfl (lv_at hl 1 rfl) ?_
  refine vp_callSi (va_runS (As := [.int cell]) (rest := [.ref (ad 0)]) ⟨hx, hb, hml, hown, hts⟩ (c_X3_isCell l cell) (va_cwS 1 hts gX3_setRecharge_X3_isCell rfl rfl rfl hd_X3_isCell ⟨Nat.le_of_ble_eq_true rfl, Nat.le_of_ble_eq_true rfl⟩) ⟨fun a U g mk q => q, fun U hU hW => ⟨rfl, trivial⟩⟩ rfl rfl hl.1 rfl (lv_room (Nat.le_of_ble_eq_true rfl)) dX3_setRecharge_2 ⟨Nat.le_of_ble_eq_true rfl, Nat.le_of_ble_eq_true rfl⟩).run (fun r1 hr1 => ?_)
  have hr1 : r1 = bI (inR cell (nI 0) (nI 8)) := hr1
  subst hr1
  refine wb_if_ne (tgt := 12) hx hb dX3_setRecharge_5 (by decide) (fun cC => ?_) (fun cC => ?_)
  · obtain ⟨c0, hc0, ec0⟩ := inR_nat (n := 8) (by decide) cC
    have hl : lv_has ls 3 [(0, .ref (ad 0)), (1, .int (nI c0)), (2, .int v)] := by rw [← ec0]; exact hl
    refine lv_iload_n hx hb dX3_setRecharge_12 rfl (lv_at hl 2 rfl) ?_
    refine lv_iconst (v := nI 0) hx hb dX3_setRecharge_13 (by decide) ?_
    refine lv_sipush (v := nI 1000) hx hb dX3_setRecharge_14 (by decide) ?_
    refine vp_callSi (va_runS (As := [.int v, .int (nI 0), .int (nI 1000)]) (rest := [.ref (ad 0)]) ⟨hx, hb, hml, hown, hts⟩ (c_X3_in l v (nI 0) (nI 1000)) (va_cwS 3 hts gX3_setRecharge_X3_in rfl rfl rfl hd_X3_in ⟨Nat.le_of_ble_eq_true rfl, Nat.le_of_ble_eq_true rfl⟩) ⟨fun a U g mk q => q, fun U hU hW => ⟨rfl, trivial⟩⟩ rfl rfl hl.1 rfl (lv_room (Nat.le_of_ble_eq_true rfl)) dX3_setRecharge_17 ⟨Nat.le_of_ble_eq_true rfl, Nat.le_of_ble_eq_true rfl⟩).run (fun r2 hr2 => ?_)
    have hr2 : r2 = bI (inR v (nI 0) (nI 1000)) := hr2
    subst hr2
    refine wb_if_ne (tgt := 27) hx hb dX3_setRecharge_20 (by decide) (fun cV => ?_) (fun cV => ?_)
    · refine lv_iconst (v := nI 0) hx hb dX3_setRecharge_27 (by decide) ?_
      refine va_put (D := dd) (ci := 5) (v := .int (nI 0)) (ty := .int) (C := RX3) (T := TX3) (N := 15) hx hb hts (fun _ h9 => List.mem_cons_of_mem _ (List.mem_append_left _ (List.mem_append_right _ h9))) tyX3 tyX3_ok nmX3 hown hK hP hD hS 0 (wM_0 cy ad u X) rfl 5 (by decide) (hts (Cond.fieldLink RX3 45 "HeadGridModel" "thrown" "I") (List.mem_of_getElem? (i := 1) rfl)) (fun _ h9 => h9) rfl (tyX3_ok 5 (by decide)) rfl rfl (Nat.le_of_ble_eq_true rfl) dX3_setRecharge_28 (fun H locs hP hD hS => ?_)
      have hP : va_P dd vwCl (wM cy ad (u.1, u.2.1, u.2.2.1, u.2.2.2.1, (nI 0), u.2.2.2.2.2) ++ X) H := hP
      have hD : va_D A (wM cy ad (u.1, u.2.1, u.2.2.1, u.2.2.2.1, (nI 0), u.2.2.2.2.2) ++ X) := hD
      obtain ⟨us3, hus3⟩ : ∃ z9z : MS, z9z = (u.1, u.2.1, u.2.2.1, u.2.2.2.1, (nI 0), u.2.2.2.2.2) := ⟨_, rfl⟩
      rw [← hus3] at hP hD
      have pus3_1 : us3.1 = u.1 := by rw [hus3]
      have pus3_21 : us3.2.1 = u.2.1 := by rw [hus3]
      have pus3_221 : us3.2.2.1 = u.2.2.1 := by rw [hus3]
      have pus3_kept : us3.2.2.2.1 = u.2.2.2.1 := by rw [hus3]
      have h_kept : (nI n) = us3.2.2.2.1 := by rw [pus3_kept]; exact h_kept
      have h_thrown : (nI 0) = us3.2.2.2.2.1 := by rw [hus3]
      have pus3_whole : us3.2.2.2.2.2.1 = u.2.2.2.2.2.1 := by rw [hus3]
      have pus3_hash : us3.2.2.2.2.2.2 = u.2.2.2.2.2.2 := by rw [hus3]
      have qus3_1 : us3.1 = u.1 := pus3_1.trans rfl
      have qus3_21 : us3.2.1 = u.2.1 := pus3_21.trans rfl
      have qus3_k : us3.2.2.2.1 = u.2.2.2.1 := pus3_kept.trans rfl
      refine lv_aload_n hx hb dX3_setRecharge_31 rfl (lv_at hl 0 rfl) ?_
      refine va_get (D := dd) (ci := 5) (v := .int (nI 0)) (C := RX3) (T := TX3) (N := 15) hx hb hts (fun _ h9 => List.mem_cons_of_mem _ (List.mem_append_left _ (List.mem_append_right _ h9))) hown hK hP 0 (wM_0 cy ad us3 X) rfl 5 (by decide) (hts (Cond.fieldLink RX3 45 "HeadGridModel" "thrown" "I") (List.mem_of_getElem? (i := 1) rfl)) (fun _ h9 => h9) (by rw [h_thrown]; rfl) dX3_setRecharge_32 ?_
      refine wn_if_eq (tgt := 42) hx hb dX3_setRecharge_35 (by decide) (by omega) (fun _ => ?_) (fun c4 => (by first | exact absurd (by decide) c4 | exact absurd c4 (by decide)))
      refine lv_aload_n hx hb dX3_setRecharge_42 rfl (lv_at hl 0 rfl) ?_
      refine lv_bipush (v := nI 36) hx hb dX3_setRecharge_43 (by decide) ?_
      refine lv_iload_n hx hb dX3_setRecharge_45 rfl (lv_at hl 1 rfl) ?_
      refine wn_iadd hx hb dX3_setRecharge_46 ?_
      refine lv_iload_n hx hb dX3_setRecharge_47 rfl (lv_at hl 2 rfl) ?_
      refine wc_calli (va_runV (As := [.int (nI (36 + c0)), .int v]) (rest := []) ⟨hx, hb, hml, hown, hts⟩ (c_X3_becomes l dd cy ad X us3 _ n hn h_kept (36 + c0) (by omega) v) (cwV 2 hts gX3_setRecharge_X3_becomes rfl rfl rfl hd_X3_becomes ⟨Nat.le_of_ble_eq_true rfl, Nat.le_of_ble_eq_true rfl⟩) (wrW_V hP hK hD (wM_0 cy ad us3 X) rfl) rfl rfl hl.1 rfl (lv_room (Nat.le_of_ble_eq_true rfl)) dX3_setRecharge_48 ⟨Nat.le_of_ble_eq_true rfl, Nat.le_of_ble_eq_true rfl⟩) hD hS hA (fun r5 us6 H locs w7 hP hD hS => ?_)
      obtain ⟨hr5, hsv, hb1, hb2, hb3⟩ := w7
      subst hr5
      exact W.iret (v := (us3.1 1 (36 + c0))) hx hb hr (fun t ht hW => ⟨⟨(us3.1 1 (36 + c0)), us6, rfl, (by rw [cC, cV]; exact ⟨by rw [show us6.2.2.2.2.1 = us3.2.2.2.2.1 by rw [hb3]]; exact h_thrown.symm, fun q9 => absurd rfl q9, fun _ => ⟨by rw [qus3_1, ec0, nI_clamp (by omega)], ⟨hsv.1, fun i9 hi9 j9 hj9 => (hsv.2.1 i9 hi9 j9 hj9).trans (by rw [qus3_1]), fun j9 hj9 => (hsv.2.2.1 j9 hj9).trans (by rw [qus3_1]), fun i9 hi9 j9 hj9 => (hsv.2.2.2.1 i9 hi9 j9 hj9).trans (by rw [qus3_21]), fun j9 hj9 => (hsv.2.2.2.2 j9 hj9).trans (by rw [qus3_21])⟩, by rw [hb1, qus3_1, ec0, nI_clamp (by omega)], by rw [hb2 2 (by decide), qus3_21]⟩⟩), by rw [ht]; exact hP, va_K.moved hW.alike hK, hD⟩, hS.F ht⟩) hS.2.2 dX3_setRecharge_51
    · refine lv_iconst (v := nI 2) hx hb dX3_setRecharge_23 (by decide) ?_
      refine lv_goto (tgt := 28) hx hb dX3_setRecharge_24 (by decide) ?_
      refine va_put (D := dd) (ci := 5) (v := .int (nI 2)) (ty := .int) (C := RX3) (T := TX3) (N := 15) hx hb hts (fun _ h9 => List.mem_cons_of_mem _ (List.mem_append_left _ (List.mem_append_right _ h9))) tyX3 tyX3_ok nmX3 hown hK hP hD hS 0 (wM_0 cy ad u X) rfl 5 (by decide) (hts (Cond.fieldLink RX3 45 "HeadGridModel" "thrown" "I") (List.mem_of_getElem? (i := 1) rfl)) (fun _ h9 => h9) rfl (tyX3_ok 5 (by decide)) rfl rfl (Nat.le_of_ble_eq_true rfl) dX3_setRecharge_28 (fun H locs hP hD hS => ?_)
      have hP : va_P dd vwCl (wM cy ad (u.1, u.2.1, u.2.2.1, u.2.2.2.1, (nI 2), u.2.2.2.2.2) ++ X) H := hP
      have hD : va_D A (wM cy ad (u.1, u.2.1, u.2.2.1, u.2.2.2.1, (nI 2), u.2.2.2.2.2) ++ X) := hD
      obtain ⟨us8, hus8⟩ : ∃ z9z : MS, z9z = (u.1, u.2.1, u.2.2.1, u.2.2.2.1, (nI 2), u.2.2.2.2.2) := ⟨_, rfl⟩
      rw [← hus8] at hP hD
      have pus8_1 : us8.1 = u.1 := by rw [hus8]
      have pus8_21 : us8.2.1 = u.2.1 := by rw [hus8]
      have pus8_221 : us8.2.2.1 = u.2.2.1 := by rw [hus8]
      have pus8_kept : us8.2.2.2.1 = u.2.2.2.1 := by rw [hus8]
      have h_kept : (nI n) = us8.2.2.2.1 := by rw [pus8_kept]; exact h_kept
      have h_thrown : (nI 2) = us8.2.2.2.2.1 := by rw [hus8]
      have pus8_whole : us8.2.2.2.2.2.1 = u.2.2.2.2.2.1 := by rw [hus8]
      have pus8_hash : us8.2.2.2.2.2.2 = u.2.2.2.2.2.2 := by rw [hus8]
      have qus8_1 : us8.1 = u.1 := pus8_1.trans rfl
      have qus8_21 : us8.2.1 = u.2.1 := pus8_21.trans rfl
      have qus8_k : us8.2.2.2.1 = u.2.2.2.1 := pus8_kept.trans rfl
      refine lv_aload_n hx hb dX3_setRecharge_31 rfl (lv_at hl 0 rfl) ?_
      refine va_get (D := dd) (ci := 5) (v := .int (nI 2)) (C := RX3) (T := TX3) (N := 15) hx hb hts (fun _ h9 => List.mem_cons_of_mem _ (List.mem_append_left _ (List.mem_append_right _ h9))) hown hK hP 0 (wM_0 cy ad us8 X) rfl 5 (by decide) (hts (Cond.fieldLink RX3 45 "HeadGridModel" "thrown" "I") (List.mem_of_getElem? (i := 1) rfl)) (fun _ h9 => h9) (by rw [h_thrown]; rfl) dX3_setRecharge_32 ?_
      refine wn_if_eq (tgt := 42) hx hb dX3_setRecharge_35 (by decide) (by omega) (fun c9 => (by first | exact absurd c9 (by decide) | exact absurd (by decide) c9)) (fun _ => ?_)
      refine lv_iconst (v := nI 0) hx hb dX3_setRecharge_38 (by decide) ?_
      refine lv_goto (tgt := 51) hx hb dX3_setRecharge_39 (by decide) ?_
      exact W.iret (v := (nI 0)) hx hb hr (fun t ht hW => ⟨⟨(nI 0), us8, rfl, (by rw [cC, cV]; exact ⟨h_thrown.symm, fun _ => ⟨qus8_1, qus8_21, qus8_k⟩, fun q9 => absurd q9 (by simp)⟩), by rw [ht]; exact hP, va_K.moved hW.alike hK, hD⟩, hS.F ht⟩) hS.2.2 dX3_setRecharge_51
  · refine lv_iconst (v := nI 1) hx hb dX3_setRecharge_8 (by decide) ?_
    refine lv_goto (tgt := 28) hx hb dX3_setRecharge_9 (by decide) ?_
    refine va_put (D := dd) (ci := 5) (v := .int (nI 1)) (ty := .int) (C := RX3) (T := TX3) (N := 15) hx hb hts (fun _ h9 => List.mem_cons_of_mem _ (List.mem_append_left _ (List.mem_append_right _ h9))) tyX3 tyX3_ok nmX3 hown hK hP hD hS 0 (wM_0 cy ad u X) rfl 5 (by decide) (hts (Cond.fieldLink RX3 45 "HeadGridModel" "thrown" "I") (List.mem_of_getElem? (i := 1) rfl)) (fun _ h9 => h9) rfl (tyX3_ok 5 (by decide)) rfl rfl (Nat.le_of_ble_eq_true rfl) dX3_setRecharge_28 (fun H locs hP hD hS => ?_)
    have hP : va_P dd vwCl (wM cy ad (u.1, u.2.1, u.2.2.1, u.2.2.2.1, (nI 1), u.2.2.2.2.2) ++ X) H := hP
    have hD : va_D A (wM cy ad (u.1, u.2.1, u.2.2.1, u.2.2.2.1, (nI 1), u.2.2.2.2.2) ++ X) := hD
    obtain ⟨us10, hus10⟩ : ∃ z9z : MS, z9z = (u.1, u.2.1, u.2.2.1, u.2.2.2.1, (nI 1), u.2.2.2.2.2) := ⟨_, rfl⟩
    rw [← hus10] at hP hD
    have pus10_1 : us10.1 = u.1 := by rw [hus10]
    have pus10_21 : us10.2.1 = u.2.1 := by rw [hus10]
    have pus10_221 : us10.2.2.1 = u.2.2.1 := by rw [hus10]
    have pus10_kept : us10.2.2.2.1 = u.2.2.2.1 := by rw [hus10]
    have h_kept : (nI n) = us10.2.2.2.1 := by rw [pus10_kept]; exact h_kept
    have h_thrown : (nI 1) = us10.2.2.2.2.1 := by rw [hus10]
    have pus10_whole : us10.2.2.2.2.2.1 = u.2.2.2.2.2.1 := by rw [hus10]
    have pus10_hash : us10.2.2.2.2.2.2 = u.2.2.2.2.2.2 := by rw [hus10]
    have qus10_1 : us10.1 = u.1 := pus10_1.trans rfl
    have qus10_21 : us10.2.1 = u.2.1 := pus10_21.trans rfl
    have qus10_k : us10.2.2.2.1 = u.2.2.2.1 := pus10_kept.trans rfl
    refine lv_aload_n hx hb dX3_setRecharge_31 rfl (lv_at hl 0 rfl) ?_
    refine va_get (D := dd) (ci := 5) (v := .int (nI 1)) (C := RX3) (T := TX3) (N := 15) hx hb hts (fun _ h9 => List.mem_cons_of_mem _ (List.mem_append_left _ (List.mem_append_right _ h9))) hown hK hP 0 (wM_0 cy ad us10 X) rfl 5 (by decide) (hts (Cond.fieldLink RX3 45 "HeadGridModel" "thrown" "I") (List.mem_of_getElem? (i := 1) rfl)) (fun _ h9 => h9) (by rw [h_thrown]; rfl) dX3_setRecharge_32 ?_
    refine wn_if_eq (tgt := 42) hx hb dX3_setRecharge_35 (by decide) (by omega) (fun c11 => (by first | exact absurd c11 (by decide) | exact absurd (by decide) c11)) (fun _ => ?_)
    refine lv_iconst (v := nI 0) hx hb dX3_setRecharge_38 (by decide) ?_
    refine lv_goto (tgt := 51) hx hb dX3_setRecharge_39 (by decide) ?_
    exact W.iret (v := (nI 0)) hx hb hr (fun t ht hW => ⟨⟨(nI 0), us10, rfl, (by rw [cC]; exact ⟨h_thrown.symm, fun _ => ⟨qus10_1, qus10_21, qus10_k⟩, fun q9 => absurd q9 (by simp)⟩), by rw [ht]; exact hP, va_K.moved hW.alike hK, hD⟩, hS.F ht⟩) hS.2.2 dX3_setRecharge_51
theorem hd_X3_setRate : yX3_setRate.cls = RX3 ∧ yX3_setRate.cls ≠ "java/lang/invoke/MethodHandle" ∧ yX3_setRate.cls ≠ "java/lang/invoke/VarHandle" ∧ (parseMethodDescriptor yX3_setRate.desc).map (fun d => d.parameters.length) = some 2 := by decide +kernel
set_option maxHeartbeats 4000000 in
set_option maxRecDepth 100000 in
/-- X3_setRate -/
theorem c_X3_setRate (l : Launch) (dd : va_G) (cy : Nat → ClassId) (ad : Nat → Nat) (X : va_W) (u : MS) (sz : Nat) (n : Nat) (hn : n ≤ 4) (h_kept : nI n = u.2.2.2.1) (cell v : Int32) : Met l yX3_setRate wsX3_setRate ({ frames := 2, cells := 0, slots := 0, locals := 44 }) (va_Pc [.ref (ad 0), .int cell, .int v] (wrW dd cy (wM cy ad u ++ X) sz)) (va_Qi (fun r u9 => u9.2.2.2.2.1 = nI (if inR cell (nI 0) (nI 8) then (if inR v (nI 0) (nI 1000) then 0 else 2) else 1) ∧ ((if inR cell (nI 0) (nI 8) then (if inR v (nI 0) (nI 1000) then 0 else 2) else 1) ≠ 0 → u9.1 = u.1 ∧ u9.2.1 = u.2.1 ∧ u9.2.2.2.1 = u.2.2.2.1) ∧ ((if inR cell (nI 0) (nI 8) then (if inR v (nI 0) (nI 1000) then 0 else 2) else 1) = 0 → r = u.1 1 (45 + cell.toNatClampNeg) ∧ svP n u u9 ∧ u9.1 1 = upd (u.1 1) (45 + cell.toNatClampNeg) v ∧ u9.2.1 2 = u.2.1 2)) (wB dd cy (fun u9 : MS => wM cy ad u9 ++ X) (va_A (wM cy ad u ++ X) sz)) (va_A (wM cy ad u ++ X) sz)) 0 0 (va_A (wM cy ad u ++ X) sz) := by
  refine Met.ofW (cc := cX3_setRate) (maxL := 3) (ret := (some .int)) (by decide) rfl ?_
  intro p e s m args below meth c s₁ B hml hv
  obtain ⟨rfl, hsz, hP, hK, hD0⟩ := hv
  have hx := B.exec
  have hb := B.bytes
  have hr := B.returns
  have hts := atoms_spec (ws := wsX3_setRate) B.pre
  have hown : s.vm.findClass RX3 = some m.cls := findClass_of_methodNamed B.named
  have hlocks := B.notSynchronized
  subst hsz
  have hD := hD0.self (sz := s.heap.size)
  generalize hAe : va_A (wM cy ad u ++ X) s.heap.size = A at hD ⊢
  have hA : ∀ q : Nat, s.heap.size ≤ q → A q := fun q h => by rw [← hAe]; exact Or.inr h
  have hS : va_S A s.heap s.heap [] := va_S.rf
  have hl := lv_entry ([.ref (ad 0), .int cell, .int v]) (n := 3) (Nat.le_of_ble_eq_true rfl)
  rw [lg_entry_eq]
  generalize (lg_sl ([.ref (ad 0), .int cell, .int v]) ++ List.replicate (3 - (lg_sl ([.ref (ad 0), .int cell, .int v])).length) Slot.unset).toArray = ls at hl ⊢
  have hl : lv_has ls 3 [(0, .ref (ad 0)), (1, .int cell), (2, .int v)] := hl
  refine lv_aload_n hx hb dX3_setRate_0 rfl (lv_at hl 0 rfl) ?_
  refine lv_iload_n hx hb dX3_setRate_1 rfl (lv_at hl 1 rfl) ?_
  refine vp_callSi (va_runS (As := [.int cell]) (rest := [.ref (ad 0)]) ⟨hx, hb, hml, hown, hts⟩ (c_X3_isCell l cell) (va_cwS 1 hts gX3_setRate_X3_isCell rfl rfl rfl hd_X3_isCell ⟨Nat.le_of_ble_eq_true rfl, Nat.le_of_ble_eq_true rfl⟩) ⟨fun a U g mk q => q, fun U hU hW => ⟨rfl, trivial⟩⟩ rfl rfl hl.1 rfl (lv_room (Nat.le_of_ble_eq_true rfl)) dX3_setRate_2 ⟨Nat.le_of_ble_eq_true rfl, Nat.le_of_ble_eq_true rfl⟩).run (fun r1 hr1 => ?_)
  have hr1 : r1 = bI (inR cell (nI 0) (nI 8)) := hr1
  subst hr1
  refine wb_if_ne (tgt := 12) hx hb dX3_setRate_5 (by decide) (fun cC => ?_) (fun cC => ?_)
  · obtain ⟨c0, hc0, ec0⟩ := inR_nat (n := 8) (by decide) cC
    have hl : lv_has ls 3 [(0, .ref (ad 0)), (1, .int (nI c0)), (2, .int v)] := by rw [← ec0]; exact hl
    refine lv_iload_n hx hb dX3_setRate_12 rfl (lv_at hl 2 rfl) ?_
    refine lv_iconst (v := nI 0) hx hb dX3_setRate_13 (by decide) ?_
    refine lv_sipush (v := nI 1000) hx hb dX3_setRate_14 (by decide) ?_
    refine vp_callSi (va_runS (As := [.int v, .int (nI 0), .int (nI 1000)]) (rest := [.ref (ad 0)]) ⟨hx, hb, hml, hown, hts⟩ (c_X3_in l v (nI 0) (nI 1000)) (va_cwS 3 hts gX3_setRate_X3_in rfl rfl rfl hd_X3_in ⟨Nat.le_of_ble_eq_true rfl, Nat.le_of_ble_eq_true rfl⟩) ⟨fun a U g mk q => q, fun U hU hW => ⟨rfl, trivial⟩⟩ rfl rfl hl.1 rfl (lv_room (Nat.le_of_ble_eq_true rfl)) dX3_setRate_17 ⟨Nat.le_of_ble_eq_true rfl, Nat.le_of_ble_eq_true rfl⟩).run (fun r2 hr2 => ?_)
    have hr2 : r2 = bI (inR v (nI 0) (nI 1000)) := hr2
    subst hr2
    refine wb_if_ne (tgt := 27) hx hb dX3_setRate_20 (by decide) (fun cV => ?_) (fun cV => ?_)
    · refine lv_iconst (v := nI 0) hx hb dX3_setRate_27 (by decide) ?_
      refine va_put (D := dd) (ci := 5) (v := .int (nI 0)) (ty := .int) (C := RX3) (T := TX3) (N := 15) hx hb hts (fun _ h9 => List.mem_cons_of_mem _ (List.mem_append_left _ (List.mem_append_right _ h9))) tyX3 tyX3_ok nmX3 hown hK hP hD hS 0 (wM_0 cy ad u X) rfl 5 (by decide) (hts (Cond.fieldLink RX3 45 "HeadGridModel" "thrown" "I") (List.mem_of_getElem? (i := 1) rfl)) (fun _ h9 => h9) rfl (tyX3_ok 5 (by decide)) rfl rfl (Nat.le_of_ble_eq_true rfl) dX3_setRate_28 (fun H locs hP hD hS => ?_)
      have hP : va_P dd vwCl (wM cy ad (u.1, u.2.1, u.2.2.1, u.2.2.2.1, (nI 0), u.2.2.2.2.2) ++ X) H := hP
      have hD : va_D A (wM cy ad (u.1, u.2.1, u.2.2.1, u.2.2.2.1, (nI 0), u.2.2.2.2.2) ++ X) := hD
      obtain ⟨us3, hus3⟩ : ∃ z9z : MS, z9z = (u.1, u.2.1, u.2.2.1, u.2.2.2.1, (nI 0), u.2.2.2.2.2) := ⟨_, rfl⟩
      rw [← hus3] at hP hD
      have pus3_1 : us3.1 = u.1 := by rw [hus3]
      have pus3_21 : us3.2.1 = u.2.1 := by rw [hus3]
      have pus3_221 : us3.2.2.1 = u.2.2.1 := by rw [hus3]
      have pus3_kept : us3.2.2.2.1 = u.2.2.2.1 := by rw [hus3]
      have h_kept : (nI n) = us3.2.2.2.1 := by rw [pus3_kept]; exact h_kept
      have h_thrown : (nI 0) = us3.2.2.2.2.1 := by rw [hus3]
      have pus3_whole : us3.2.2.2.2.2.1 = u.2.2.2.2.2.1 := by rw [hus3]
      have pus3_hash : us3.2.2.2.2.2.2 = u.2.2.2.2.2.2 := by rw [hus3]
      have qus3_1 : us3.1 = u.1 := pus3_1.trans rfl
      have qus3_21 : us3.2.1 = u.2.1 := pus3_21.trans rfl
      have qus3_k : us3.2.2.2.1 = u.2.2.2.1 := pus3_kept.trans rfl
      refine lv_aload_n hx hb dX3_setRate_31 rfl (lv_at hl 0 rfl) ?_
      refine va_get (D := dd) (ci := 5) (v := .int (nI 0)) (C := RX3) (T := TX3) (N := 15) hx hb hts (fun _ h9 => List.mem_cons_of_mem _ (List.mem_append_left _ (List.mem_append_right _ h9))) hown hK hP 0 (wM_0 cy ad us3 X) rfl 5 (by decide) (hts (Cond.fieldLink RX3 45 "HeadGridModel" "thrown" "I") (List.mem_of_getElem? (i := 1) rfl)) (fun _ h9 => h9) (by rw [h_thrown]; rfl) dX3_setRate_32 ?_
      refine wn_if_eq (tgt := 42) hx hb dX3_setRate_35 (by decide) (by omega) (fun _ => ?_) (fun c4 => (by first | exact absurd (by decide) c4 | exact absurd c4 (by decide)))
      refine lv_aload_n hx hb dX3_setRate_42 rfl (lv_at hl 0 rfl) ?_
      refine lv_bipush (v := nI 45) hx hb dX3_setRate_43 (by decide) ?_
      refine lv_iload_n hx hb dX3_setRate_45 rfl (lv_at hl 1 rfl) ?_
      refine wn_iadd hx hb dX3_setRate_46 ?_
      refine lv_iload_n hx hb dX3_setRate_47 rfl (lv_at hl 2 rfl) ?_
      refine wc_calli (va_runV (As := [.int (nI (45 + c0)), .int v]) (rest := []) ⟨hx, hb, hml, hown, hts⟩ (c_X3_becomes l dd cy ad X us3 _ n hn h_kept (45 + c0) (by omega) v) (cwV 2 hts gX3_setRate_X3_becomes rfl rfl rfl hd_X3_becomes ⟨Nat.le_of_ble_eq_true rfl, Nat.le_of_ble_eq_true rfl⟩) (wrW_V hP hK hD (wM_0 cy ad us3 X) rfl) rfl rfl hl.1 rfl (lv_room (Nat.le_of_ble_eq_true rfl)) dX3_setRate_48 ⟨Nat.le_of_ble_eq_true rfl, Nat.le_of_ble_eq_true rfl⟩) hD hS hA (fun r5 us6 H locs w7 hP hD hS => ?_)
      obtain ⟨hr5, hsv, hb1, hb2, hb3⟩ := w7
      subst hr5
      exact W.iret (v := (us3.1 1 (45 + c0))) hx hb hr (fun t ht hW => ⟨⟨(us3.1 1 (45 + c0)), us6, rfl, (by rw [cC, cV]; exact ⟨by rw [show us6.2.2.2.2.1 = us3.2.2.2.2.1 by rw [hb3]]; exact h_thrown.symm, fun q9 => absurd rfl q9, fun _ => ⟨by rw [qus3_1, ec0, nI_clamp (by omega)], ⟨hsv.1, fun i9 hi9 j9 hj9 => (hsv.2.1 i9 hi9 j9 hj9).trans (by rw [qus3_1]), fun j9 hj9 => (hsv.2.2.1 j9 hj9).trans (by rw [qus3_1]), fun i9 hi9 j9 hj9 => (hsv.2.2.2.1 i9 hi9 j9 hj9).trans (by rw [qus3_21]), fun j9 hj9 => (hsv.2.2.2.2 j9 hj9).trans (by rw [qus3_21])⟩, by rw [hb1, qus3_1, ec0, nI_clamp (by omega)], by rw [hb2 2 (by decide), qus3_21]⟩⟩), by rw [ht]; exact hP, va_K.moved hW.alike hK, hD⟩, hS.F ht⟩) hS.2.2 dX3_setRate_51
    · refine lv_iconst (v := nI 2) hx hb dX3_setRate_23 (by decide) ?_
      refine lv_goto (tgt := 28) hx hb dX3_setRate_24 (by decide) ?_
      refine va_put (D := dd) (ci := 5) (v := .int (nI 2)) (ty := .int) (C := RX3) (T := TX3) (N := 15) hx hb hts (fun _ h9 => List.mem_cons_of_mem _ (List.mem_append_left _ (List.mem_append_right _ h9))) tyX3 tyX3_ok nmX3 hown hK hP hD hS 0 (wM_0 cy ad u X) rfl 5 (by decide) (hts (Cond.fieldLink RX3 45 "HeadGridModel" "thrown" "I") (List.mem_of_getElem? (i := 1) rfl)) (fun _ h9 => h9) rfl (tyX3_ok 5 (by decide)) rfl rfl (Nat.le_of_ble_eq_true rfl) dX3_setRate_28 (fun H locs hP hD hS => ?_)
      have hP : va_P dd vwCl (wM cy ad (u.1, u.2.1, u.2.2.1, u.2.2.2.1, (nI 2), u.2.2.2.2.2) ++ X) H := hP
      have hD : va_D A (wM cy ad (u.1, u.2.1, u.2.2.1, u.2.2.2.1, (nI 2), u.2.2.2.2.2) ++ X) := hD
      obtain ⟨us8, hus8⟩ : ∃ z9z : MS, z9z = (u.1, u.2.1, u.2.2.1, u.2.2.2.1, (nI 2), u.2.2.2.2.2) := ⟨_, rfl⟩
      rw [← hus8] at hP hD
      have pus8_1 : us8.1 = u.1 := by rw [hus8]
      have pus8_21 : us8.2.1 = u.2.1 := by rw [hus8]
      have pus8_221 : us8.2.2.1 = u.2.2.1 := by rw [hus8]
      have pus8_kept : us8.2.2.2.1 = u.2.2.2.1 := by rw [hus8]
      have h_kept : (nI n) = us8.2.2.2.1 := by rw [pus8_kept]; exact h_kept
      have h_thrown : (nI 2) = us8.2.2.2.2.1 := by rw [hus8]
      have pus8_whole : us8.2.2.2.2.2.1 = u.2.2.2.2.2.1 := by rw [hus8]
      have pus8_hash : us8.2.2.2.2.2.2 = u.2.2.2.2.2.2 := by rw [hus8]
      have qus8_1 : us8.1 = u.1 := pus8_1.trans rfl
      have qus8_21 : us8.2.1 = u.2.1 := pus8_21.trans rfl
      have qus8_k : us8.2.2.2.1 = u.2.2.2.1 := pus8_kept.trans rfl
      refine lv_aload_n hx hb dX3_setRate_31 rfl (lv_at hl 0 rfl) ?_
      refine va_get (D := dd) (ci := 5) (v := .int (nI 2)) (C := RX3) (T := TX3) (N := 15) hx hb hts (fun _ h9 => List.mem_cons_of_mem _ (List.mem_append_left _ (List.mem_append_right _ h9))) hown hK hP 0 (wM_0 cy ad us8 X) rfl 5 (by decide) (hts (Cond.fieldLink RX3 45 "HeadGridModel" "thrown" "I") (List.mem_of_getElem? (i := 1) rfl)) (fun _ h9 => h9) (by rw [h_thrown]; rfl) dX3_setRate_32 ?_
      refine wn_if_eq (tgt := 42) hx hb dX3_setRate_35 (by decide) (by omega) (fun c9 => (by first | exact absurd c9 (by decide) | exact absurd (by decide) c9)) (fun _ => ?_)
      refine lv_iconst (v := nI 0) hx hb dX3_setRate_38 (by decide) ?_
      refine lv_goto (tgt := 51) hx hb dX3_setRate_39 (by decide) ?_
      exact W.iret (v := (nI 0)) hx hb hr (fun t ht hW => ⟨⟨(nI 0), us8, rfl, (by rw [cC, cV]; exact ⟨h_thrown.symm, fun _ => ⟨qus8_1, qus8_21, qus8_k⟩, fun q9 => absurd q9 (by simp)⟩), by rw [ht]; exact hP, va_K.moved hW.alike hK, hD⟩, hS.F ht⟩) hS.2.2 dX3_setRate_51
  · refine lv_iconst (v := nI 1) hx hb dX3_setRate_8 (by decide) ?_
    refine lv_goto (tgt := 28) hx hb dX3_setRate_9 (by decide) ?_
    refine va_put (D := dd) (ci := 5) (v := .int (nI 1)) (ty := .int) (C := RX3) (T := TX3) (N := 15) hx hb hts (fun _ h9 => List.mem_cons_of_mem _ (List.mem_append_left _ (List.mem_append_right _ h9))) tyX3 tyX3_ok nmX3 hown hK hP hD hS 0 (wM_0 cy ad u X) rfl 5 (by decide) (hts (Cond.fieldLink RX3 45 "HeadGridModel" "thrown" "I") (List.mem_of_getElem? (i := 1) rfl)) (fun _ h9 => h9) rfl (tyX3_ok 5 (by decide)) rfl rfl (Nat.le_of_ble_eq_true rfl) dX3_setRate_28 (fun H locs hP hD hS => ?_)
    have hP : va_P dd vwCl (wM cy ad (u.1, u.2.1, u.2.2.1, u.2.2.2.1, (nI 1), u.2.2.2.2.2) ++ X) H := hP
    have hD : va_D A (wM cy ad (u.1, u.2.1, u.2.2.1, u.2.2.2.1, (nI 1), u.2.2.2.2.2) ++ X) := hD
    obtain ⟨us10, hus10⟩ : ∃ z9z : MS, z9z = (u.1, u.2.1, u.2.2.1, u.2.2.2.1, (nI 1), u.2.2.2.2.2) := ⟨_, rfl⟩
    rw [← hus10] at hP hD
    have pus10_1 : us10.1 = u.1 := by rw [hus10]
    have pus10_21 : us10.2.1 = u.2.1 := by rw [hus10]
    have pus10_221 : us10.2.2.1 = u.2.2.1 := by rw [hus10]
    have pus10_kept : us10.2.2.2.1 = u.2.2.2.1 := by rw [hus10]
    have h_kept : (nI n) = us10.2.2.2.1 := by rw [pus10_kept]; exact h_kept
    have h_thrown : (nI 1) = us10.2.2.2.2.1 := by rw [hus10]
    have pus10_whole : us10.2.2.2.2.2.1 = u.2.2.2.2.2.1 := by rw [hus10]
    have pus10_hash : us10.2.2.2.2.2.2 = u.2.2.2.2.2.2 := by rw [hus10]
    have qus10_1 : us10.1 = u.1 := pus10_1.trans rfl
    have qus10_21 : us10.2.1 = u.2.1 := pus10_21.trans rfl
    have qus10_k : us10.2.2.2.1 = u.2.2.2.1 := pus10_kept.trans rfl
    refine lv_aload_n hx hb dX3_setRate_31 rfl (lv_at hl 0 rfl) ?_
    refine va_get (D := dd) (ci := 5) (v := .int (nI 1)) (C := RX3) (T := TX3) (N := 15) hx hb hts (fun _ h9 => List.mem_cons_of_mem _ (List.mem_append_left _ (List.mem_append_right _ h9))) hown hK hP 0 (wM_0 cy ad us10 X) rfl 5 (by decide) (hts (Cond.fieldLink RX3 45 "HeadGridModel" "thrown" "I") (List.mem_of_getElem? (i := 1) rfl)) (fun _ h9 => h9) (by rw [h_thrown]; rfl) dX3_setRate_32 ?_
    refine wn_if_eq (tgt := 42) hx hb dX3_setRate_35 (by decide) (by omega) (fun c11 => (by first | exact absurd c11 (by decide) | exact absurd (by decide) c11)) (fun _ => ?_)
    refine lv_iconst (v := nI 0) hx hb dX3_setRate_38 (by decide) ?_
    refine lv_goto (tgt := 51) hx hb dX3_setRate_39 (by decide) ?_
    exact W.iret (v := (nI 0)) hx hb hr (fun t ht hW => ⟨⟨(nI 0), us10, rfl, (by rw [cC]; exact ⟨h_thrown.symm, fun _ => ⟨qus10_1, qus10_21, qus10_k⟩, fun q9 => absurd q9 (by simp)⟩), by rw [ht]; exact hP, va_K.moved hW.alike hK, hD⟩, hS.F ht⟩) hS.2.2 dX3_setRate_51
theorem hd_X3_setLevels : yX3_setLevels.cls = RX3 ∧ yX3_setLevels.cls ≠ "java/lang/invoke/MethodHandle" ∧ yX3_setLevels.cls ≠ "java/lang/invoke/VarHandle" ∧ (parseMethodDescriptor yX3_setLevels.desc).map (fun d => d.parameters.length) = some 3 := by decide +kernel
set_option maxHeartbeats 4000000 in
set_option maxRecDepth 100000 in
/-- setLevels(cell, floor, limit) -/
theorem c_X3_setLevels (l : Launch) (dd : va_G) (cy : Nat → ClassId) (ad : Nat → Nat) (X : va_W) (u : MS) (sz : Nat) (n : Nat) (hn : n ≤ 4) (h_kept : nI n = u.2.2.2.1) (cell v v2 : Int32) : Met l yX3_setLevels wsX3_setLevels ({ frames := 2, cells := 0, slots := 0, locals := 44 }) (va_Pc [.ref (ad 0), .int cell, .int v, .int v2] (wrW dd cy (wM cy ad u ++ X) sz)) (va_Qi (fun r u9 => u9.2.2.2.2.1 = nI (if inR cell (nI 0) (nI 8) then (if inR v (nI 0) (nI 1000) && inR v2 (nI 0) (nI 1000) then 0 else 2) else 1) ∧ ((if inR cell (nI 0) (nI 8) then (if inR v (nI 0) (nI 1000) && inR v2 (nI 0) (nI 1000) then 0 else 2) else 1) ≠ 0 → u9.1 = u.1 ∧ u9.2.1 = u.2.1 ∧ u9.2.2.2.1 = u.2.2.2.1) ∧ ((if inR cell (nI 0) (nI 8) then (if inR v (nI 0) (nI 1000) && inR v2 (nI 0) (nI 1000) then 0 else 2) else 1) = 0 → r = u.1 1 (63 + cell.toNatClampNeg) ∧ svP n u u9 ∧ u9.1 1 = upd (upd (u.1 1) (63 + cell.toNatClampNeg) v2) (54 + cell.toNatClampNeg) v ∧ u9.2.1 2 = u.2.1 2)) (wB dd cy (fun u9 : MS => wM cy ad u9 ++ X) (va_A (wM cy ad u ++ X) sz)) (va_A (wM cy ad u ++ X) sz)) 0 0 (va_A (wM cy ad u ++ X) sz) := by
  refine Met.ofW (cc := cX3_setLevels) (maxL := 5) (ret := (some .int)) (by decide) rfl ?_
  intro p e s m args below meth c s₁ B hml hv
  obtain ⟨rfl, hsz, hP, hK, hD0⟩ := hv
  have hx := B.exec
  have hb := B.bytes
  have hr := B.returns
  have hts := atoms_spec (ws := wsX3_setLevels) B.pre
  have hown : s.vm.findClass RX3 = some m.cls := findClass_of_methodNamed B.named
  have hlocks := B.notSynchronized
  subst hsz
  have hD := hD0.self (sz := s.heap.size)
  generalize hAe : va_A (wM cy ad u ++ X) s.heap.size = A at hD ⊢
  have hA : ∀ q : Nat, s.heap.size ≤ q → A q := fun q h => by rw [← hAe]; exact Or.inr h
  have hS : va_S A s.heap s.heap [] := va_S.rf
  have hl := lv_entry ([.ref (ad 0), .int cell, .int v, .int v2]) (n := 5) (Nat.le_of_ble_eq_true rfl)
  rw [lg_entry_eq]
  generalize (lg_sl ([.ref (ad 0), .int cell, .int v, .int v2]) ++ List.replicate (5 - (lg_sl ([.ref (ad 0), .int cell, .int v, .int v2])).length) Slot.unset).toArray = ls at hl ⊢
  have hl : lv_has ls 5 [(0, .ref (ad 0)), (1, .int cell), (2, .int v), (3, .int v2)] := hl
  refine lv_aload_n hx hb dX3_setLevels_0 rfl (lv_at hl 0 rfl) ?_
  refine lv_iload_n hx hb dX3_setLevels_1 rfl (lv_at hl 1 rfl) ?_
  refine vp_callSi (va_runS (As := [.int cell]) (rest := [.ref (ad 0)]) ⟨hx, hb, hml, hown, hts⟩ (c_X3_isCell l cell) (va_cwS 1 hts gX3_setLevels_X3_isCell rfl rfl rfl hd_X3_isCell ⟨Nat.le_of_ble_eq_true rfl, Nat.le_of_ble_eq_true rfl⟩) ⟨fun a U g mk q => q, fun U hU hW => ⟨rfl, trivial⟩⟩ rfl rfl hl.1 rfl (lv_room (Nat.le_of_ble_eq_true rfl)) dX3_setLevels_2 ⟨Nat.le_of_ble_eq_true rfl, Nat.le_of_ble_eq_true rfl⟩).run (fun r1 hr1 => ?_)
  have hr1 : r1 = bI (inR cell (nI 0) (nI 8)) := hr1
  subst hr1
  refine wb_if_ne (tgt := 12) hx hb dX3_setLevels_5 (by decide) (fun cC => ?_) (fun cC => ?_)
  · obtain ⟨c0, hc0, ec0⟩ := inR_nat (n := 8) (by decide) cC
    have hl : lv_has ls 5 [(0, .ref (ad 0)), (1, .int (nI c0)), (2, .int v), (3, .int v2)] := by rw [← ec0]; exact hl
    refine lv_iload_n hx hb dX3_setLevels_12 rfl (lv_at hl 2 rfl) ?_
    refine lv_iconst (v := nI 0) hx hb dX3_setLevels_13 (by decide) ?_
    refine lv_sipush (v := nI 1000) hx hb dX3_setLevels_14 (by decide) ?_
    refine vp_callSi (va_runS (As := [.int v, .int (nI 0), .int (nI 1000)]) (rest := [.ref (ad 0)]) ⟨hx, hb, hml, hown, hts⟩ (c_X3_in l v (nI 0) (nI 1000)) (va_cwS 3 hts gX3_setLevels_X3_in rfl rfl rfl hd_X3_in ⟨Nat.le_of_ble_eq_true rfl, Nat.le_of_ble_eq_true rfl⟩) ⟨fun a U g mk q => q, fun U hU hW => ⟨rfl, trivial⟩⟩ rfl rfl hl.1 rfl (lv_room (Nat.le_of_ble_eq_true rfl)) dX3_setLevels_17 ⟨Nat.le_of_ble_eq_true rfl, Nat.le_of_ble_eq_true rfl⟩).run (fun r2 hr2 => ?_)
    have hr2 : r2 = bI (inR v (nI 0) (nI 1000)) := hr2
    subst hr2
    refine wb_if_eq (tgt := 34) hx hb dX3_setLevels_20 (by decide) (fun cV => ?_) (fun cV => ?_)
    · refine lv_iconst (v := nI 2) hx hb dX3_setLevels_34 (by decide) ?_
      refine lv_goto (tgt := 39) hx hb dX3_setLevels_35 (by decide) ?_
      refine va_put (D := dd) (ci := 5) (v := .int (nI 2)) (ty := .int) (C := RX3) (T := TX3) (N := 15) hx hb hts (fun _ h9 => List.mem_cons_of_mem _ (List.mem_append_left _ (List.mem_append_right _ h9))) tyX3 tyX3_ok nmX3 hown hK hP hD hS 0 (wM_0 cy ad u X) rfl 5 (by decide) (hts (Cond.fieldLink RX3 45 "HeadGridModel" "thrown" "I") (List.mem_of_getElem? (i := 1) rfl)) (fun _ h9 => h9) rfl (tyX3_ok 5 (by decide)) rfl rfl (Nat.le_of_ble_eq_true rfl) dX3_setLevels_39 (fun H locs hP hD hS => ?_)
      have hP : va_P dd vwCl (wM cy ad (u.1, u.2.1, u.2.2.1, u.2.2.2.1, (nI 2), u.2.2.2.2.2) ++ X) H := hP
      have hD : va_D A (wM cy ad (u.1, u.2.1, u.2.2.1, u.2.2.2.1, (nI 2), u.2.2.2.2.2) ++ X) := hD
      obtain ⟨us3, hus3⟩ : ∃ z9z : MS, z9z = (u.1, u.2.1, u.2.2.1, u.2.2.2.1, (nI 2), u.2.2.2.2.2) := ⟨_, rfl⟩
      rw [← hus3] at hP hD
      have pus3_1 : us3.1 = u.1 := by rw [hus3]
      have pus3_21 : us3.2.1 = u.2.1 := by rw [hus3]
      have pus3_221 : us3.2.2.1 = u.2.2.1 := by rw [hus3]
      have pus3_kept : us3.2.2.2.1 = u.2.2.2.1 := by rw [hus3]
      have h_kept : (nI n) = us3.2.2.2.1 := by rw [pus3_kept]; exact h_kept
      have h_thrown : (nI 2) = us3.2.2.2.2.1 := by rw [hus3]
      have pus3_whole : us3.2.2.2.2.2.1 = u.2.2.2.2.2.1 := by rw [hus3]
      have pus3_hash : us3.2.2.2.2.2.2 = u.2.2.2.2.2.2 := by rw [hus3]
      have qus3_1 : us3.1 = u.1 := pus3_1.trans rfl
      have qus3_21 : us3.2.1 = u.2.1 := pus3_21.trans rfl
      have qus3_k : us3.2.2.2.1 = u.2.2.2.1 := pus3_kept.trans rfl
      refine lv_aload_n hx hb dX3_setLevels_42 rfl (lv_at hl 0 rfl) ?_
      refine va_get (D := dd) (ci := 5) (v := .int (nI 2)) (C := RX3) (T := TX3) (N := 15) hx hb hts (fun _ h9 => List.mem_cons_of_mem _ (List.mem_append_left _ (List.mem_append_right _ h9))) hown hK hP 0 (wM_0 cy ad us3 X) rfl 5 (by decide) (hts (Cond.fieldLink RX3 45 "HeadGridModel" "thrown" "I") (List.mem_of_getElem? (i := 1) rfl)) (fun _ h9 => h9) (by rw [h_thrown]; rfl) dX3_setLevels_43 ?_
      refine wn_if_eq (tgt := 51) hx hb dX3_setLevels_46 (by decide) (by omega) (fun c4 => (by first | exact absurd c4 (by decide) | exact absurd (by decide) c4)) (fun _ => ?_)
      refine lv_iconst (v := nI 0) hx hb dX3_setLevels_49 (by decide) ?_
      exact W.iret (v := (nI 0)) hx hb hr (fun t ht hW => ⟨⟨(nI 0), us3, rfl, (by rw [cC, cV]; exact ⟨h_thrown.symm, fun _ => ⟨qus3_1, qus3_21, qus3_k⟩, fun q9 => absurd q9 (by simp)⟩), by rw [ht]; exact hP, va_K.moved hW.alike hK, hD⟩, hS.F ht⟩) hS.2.2 dX3_setLevels_50
    · refine lv_iload_n hx hb dX3_setLevels_23 rfl (lv_at hl 3 rfl) ?_
      refine lv_iconst (v := nI 0) hx hb dX3_setLevels_24 (by decide) ?_
      refine lv_sipush (v := nI 1000) hx hb dX3_setLevels_25 (by decide) ?_
      refine vp_callSi (va_runS (As := [.int v2, .int (nI 0), .int (nI 1000)]) (rest := [.ref (ad 0)]) ⟨hx, hb, hml, hown, hts⟩ (c_X3_in l v2 (nI 0) (nI 1000)) (va_cwS 3 hts gX3_setLevels_X3_in rfl rfl rfl hd_X3_in ⟨Nat.le_of_ble_eq_true rfl, Nat.le_of_ble_eq_true rfl⟩) ⟨fun a U g mk q => q, fun U hU hW => ⟨rfl, trivial⟩⟩ rfl rfl hl.1 rfl (lv_room (Nat.le_of_ble_eq_true rfl)) dX3_setLevels_28 ⟨Nat.le_of_ble_eq_true rfl, Nat.le_of_ble_eq_true rfl⟩).run (fun r5 hr5 => ?_)
      have hr5 : r5 = bI (inR v2 (nI 0) (nI 1000)) := hr5
      subst hr5
      refine wb_if_ne (tgt := 38) hx hb dX3_setLevels_31 (by decide) (fun cW => ?_) (fun cW => ?_)
      · refine lv_iconst (v := nI 0) hx hb dX3_setLevels_38 (by decide) ?_
        refine va_put (D := dd) (ci := 5) (v := .int (nI 0)) (ty := .int) (C := RX3) (T := TX3) (N := 15) hx hb hts (fun _ h9 => List.mem_cons_of_mem _ (List.mem_append_left _ (List.mem_append_right _ h9))) tyX3 tyX3_ok nmX3 hown hK hP hD hS 0 (wM_0 cy ad u X) rfl 5 (by decide) (hts (Cond.fieldLink RX3 45 "HeadGridModel" "thrown" "I") (List.mem_of_getElem? (i := 1) rfl)) (fun _ h9 => h9) rfl (tyX3_ok 5 (by decide)) rfl rfl (Nat.le_of_ble_eq_true rfl) dX3_setLevels_39 (fun H locs hP hD hS => ?_)
        have hP : va_P dd vwCl (wM cy ad (u.1, u.2.1, u.2.2.1, u.2.2.2.1, (nI 0), u.2.2.2.2.2) ++ X) H := hP
        have hD : va_D A (wM cy ad (u.1, u.2.1, u.2.2.1, u.2.2.2.1, (nI 0), u.2.2.2.2.2) ++ X) := hD
        obtain ⟨us6, hus6⟩ : ∃ z9z : MS, z9z = (u.1, u.2.1, u.2.2.1, u.2.2.2.1, (nI 0), u.2.2.2.2.2) := ⟨_, rfl⟩
        rw [← hus6] at hP hD
        have pus6_1 : us6.1 = u.1 := by rw [hus6]
        have pus6_21 : us6.2.1 = u.2.1 := by rw [hus6]
        have pus6_221 : us6.2.2.1 = u.2.2.1 := by rw [hus6]
        have pus6_kept : us6.2.2.2.1 = u.2.2.2.1 := by rw [hus6]
        have h_kept : (nI n) = us6.2.2.2.1 := by rw [pus6_kept]; exact h_kept
        have h_thrown : (nI 0) = us6.2.2.2.2.1 := by rw [hus6]
        have pus6_whole : us6.2.2.2.2.2.1 = u.2.2.2.2.2.1 := by rw [hus6]
        have pus6_hash : us6.2.2.2.2.2.2 = u.2.2.2.2.2.2 := by rw [hus6]
        have qus6_1 : us6.1 = u.1 := pus6_1.trans rfl
        have qus6_21 : us6.2.1 = u.2.1 := pus6_21.trans rfl
        have qus6_k : us6.2.2.2.1 = u.2.2.2.1 := pus6_kept.trans rfl
        refine lv_aload_n hx hb dX3_setLevels_42 rfl (lv_at hl 0 rfl) ?_
        refine va_get (D := dd) (ci := 5) (v := .int (nI 0)) (C := RX3) (T := TX3) (N := 15) hx hb hts (fun _ h9 => List.mem_cons_of_mem _ (List.mem_append_left _ (List.mem_append_right _ h9))) hown hK hP 0 (wM_0 cy ad us6 X) rfl 5 (by decide) (hts (Cond.fieldLink RX3 45 "HeadGridModel" "thrown" "I") (List.mem_of_getElem? (i := 1) rfl)) (fun _ h9 => h9) (by rw [h_thrown]; rfl) dX3_setLevels_43 ?_
        refine wn_if_eq (tgt := 51) hx hb dX3_setLevels_46 (by decide) (by omega) (fun _ => ?_) (fun c7 => (by first | exact absurd (by decide) c7 | exact absurd c7 (by decide)))
        refine lv_aload_n hx hb dX3_setLevels_51 rfl (lv_at hl 0 rfl) ?_
        refine lv_bipush (v := nI 63) hx hb dX3_setLevels_52 (by decide) ?_
        refine lv_iload_n hx hb dX3_setLevels_54 rfl (lv_at hl 1 rfl) ?_
        refine wn_iadd hx hb dX3_setLevels_55 ?_
        refine lv_iload_n hx hb dX3_setLevels_56 rfl (lv_at hl 3 rfl) ?_
        refine wc_calli (va_runV (As := [.int (nI (63 + c0)), .int v2]) (rest := []) ⟨hx, hb, hml, hown, hts⟩ (c_X3_becomes l dd cy ad X us6 _ n hn h_kept (63 + c0) (by omega) v2) (cwV 2 hts gX3_setLevels_X3_becomes rfl rfl rfl hd_X3_becomes ⟨Nat.le_of_ble_eq_true rfl, Nat.le_of_ble_eq_true rfl⟩) (wrW_V hP hK hD (wM_0 cy ad us6 X) rfl) rfl rfl hl.1 rfl (lv_room (Nat.le_of_ble_eq_true rfl)) dX3_setLevels_57 ⟨Nat.le_of_ble_eq_true rfl, Nat.le_of_ble_eq_true rfl⟩) hD hS hA (fun r8 us9 H locs w10 hP hD hS => ?_)
        obtain ⟨hr8, hsv, hb1, hb2, hb3⟩ := w10
        subst hr8
        refine lv_topi (fun x11 ex11 => ?_)
        refine lv_istore (lv' := [(4, .int x11), (0, .ref (ad 0)), (1, .int (nI c0)), (2, .int v), (3, .int v2)]) hx hb dX3_setLevels_60 hl (by decide) rfl (fun ls hl => ?_)
        refine lv_aload_n hx hb dX3_setLevels_62 rfl (lv_at hl 1 rfl) ?_
        refine va_get (D := dd) (ci := 5) (v := .ref (ad 1)) (C := RX3) (T := TX3) (N := 15) hx hb hts (fun _ h9 => List.mem_cons_of_mem _ (List.mem_append_left _ (List.mem_append_right _ h9))) hown hK hP 0 (wM_0 cy ad us9 X) rfl 0 (by decide) (hts (Cond.fieldLink RX3 7 "HeadGridModel" "now" "[I") (List.mem_of_getElem? (i := 2) rfl)) (fun _ h9 => h9) rfl dX3_setLevels_63 ?_
        refine lv_bipush (v := nI 54) hx hb dX3_setLevels_66 (by decide) ?_
        refine lv_iload_n hx hb dX3_setLevels_68 rfl (lv_at hl 2 rfl) ?_
        refine wn_iadd hx hb dX3_setLevels_69 ?_
        refine lv_iload_n hx hb dX3_setLevels_70 rfl (lv_at hl 3 rfl) ?_
        refine wa_iast hx hb hK hP hD hS (wM_1 cy ad us9 X) (t0 := 0) rfl (i := 54 + c0) (by omega) (by decide) dX3_setLevels_71 (wM_s1 cy ad us9 X _) (fun H locs hP hD hS => ?_)
        obtain ⟨us12, hus12⟩ : ∃ z9z : MS, z9z = (va_up us9.1 1 (upd (us9.1 1) (54 + c0) v), us9.2) := ⟨_, rfl⟩
        rw [← hus12] at hP hD
        have pus12_s : us12.1 1 = (upd (us9.1 1) (54 + c0) v) := by rw [hus12]; rfl
        have pus12_o : ∀ j9, j9 ≠ 1 → us12.1 j9 = us9.1 j9 := fun j9 h9 => by rw [hus12]; exact va_up_n h9
        have pus12_21 : us12.2.1 = us9.2.1 := by rw [hus12]
        have pus12_221 : us12.2.2.1 = us9.2.2.1 := by rw [hus12]
        have pus12_222 : us12.2.2.2 = us9.2.2.2 := by rw [hus12]
        refine lv_iload hx hb dX3_setLevels_72 (lv_at hl 0 rfl) ?_
        exact W.iret (v := x11) hx hb hr (fun t ht hW => ⟨⟨x11, us12, rfl, (by rw [cC, cV, cW]; exact ⟨by rw [show us12.2.2.2.2.1 = us6.2.2.2.2.1 by rw [hus12]; show us9.2.2.2.2.1 = _; rw [hb3]]; exact h_thrown.symm, fun q9 => absurd rfl q9, fun _ => ⟨by rw [ex11, qus6_1, ec0, nI_clamp (by omega)], ⟨by rw [hus12]; exact hsv.1, fun i9 hi9 j9 hj9 => by rw [pus12_o 3 (by decide), hsv.2.1 i9 hi9 j9 hj9, qus6_1], fun j9 hj9 => by rw [pus12_o 3 (by decide), hsv.2.2.1 j9 hj9, qus6_1], fun i9 hi9 j9 hj9 => by rw [pus12_21, hsv.2.2.2.1 i9 hi9 j9 hj9, qus6_21], fun j9 hj9 => by rw [pus12_21, hsv.2.2.2.2 j9 hj9, qus6_21]⟩, by rw [pus12_s, hb1, qus6_1, ec0, nI_clamp (by omega)], by rw [pus12_21, hb2 2 (by decide), qus6_21]⟩⟩), by rw [ht]; exact hP, va_K.moved hW.alike hK, hD⟩, hS.F ht⟩) hS.2.2 dX3_setLevels_74
      · refine lv_iconst (v := nI 2) hx hb dX3_setLevels_34 (by decide) ?_
        refine lv_goto (tgt := 39) hx hb dX3_setLevels_35 (by decide) ?_
        refine va_put (D := dd) (ci := 5) (v := .int (nI 2)) (ty := .int) (C := RX3) (T := TX3) (N := 15) hx hb hts (fun _ h9 => List.mem_cons_of_mem _ (List.mem_append_left _ (List.mem_append_right _ h9))) tyX3 tyX3_ok nmX3 hown hK hP hD hS 0 (wM_0 cy ad u X) rfl 5 (by decide) (hts (Cond.fieldLink RX3 45 "HeadGridModel" "thrown" "I") (List.mem_of_getElem? (i := 1) rfl)) (fun _ h9 => h9) rfl (tyX3_ok 5 (by decide)) rfl rfl (Nat.le_of_ble_eq_true rfl) dX3_setLevels_39 (fun H locs hP hD hS => ?_)
        have hP : va_P dd vwCl (wM cy ad (u.1, u.2.1, u.2.2.1, u.2.2.2.1, (nI 2), u.2.2.2.2.2) ++ X) H := hP
        have hD : va_D A (wM cy ad (u.1, u.2.1, u.2.2.1, u.2.2.2.1, (nI 2), u.2.2.2.2.2) ++ X) := hD
        obtain ⟨us13, hus13⟩ : ∃ z9z : MS, z9z = (u.1, u.2.1, u.2.2.1, u.2.2.2.1, (nI 2), u.2.2.2.2.2) := ⟨_, rfl⟩
        rw [← hus13] at hP hD
        have pus13_1 : us13.1 = u.1 := by rw [hus13]
        have pus13_21 : us13.2.1 = u.2.1 := by rw [hus13]
        have pus13_221 : us13.2.2.1 = u.2.2.1 := by rw [hus13]
        have pus13_kept : us13.2.2.2.1 = u.2.2.2.1 := by rw [hus13]
        have h_kept : (nI n) = us13.2.2.2.1 := by rw [pus13_kept]; exact h_kept
        have h_thrown : (nI 2) = us13.2.2.2.2.1 := by rw [hus13]
        have pus13_whole : us13.2.2.2.2.2.1 = u.2.2.2.2.2.1 := by rw [hus13]
        have pus13_hash : us13.2.2.2.2.2.2 = u.2.2.2.2.2.2 := by rw [hus13]
        have qus13_1 : us13.1 = u.1 := pus13_1.trans rfl
        have qus13_21 : us13.2.1 = u.2.1 := pus13_21.trans rfl
        have qus13_k : us13.2.2.2.1 = u.2.2.2.1 := pus13_kept.trans rfl
        refine lv_aload_n hx hb dX3_setLevels_42 rfl (lv_at hl 0 rfl) ?_
        refine va_get (D := dd) (ci := 5) (v := .int (nI 2)) (C := RX3) (T := TX3) (N := 15) hx hb hts (fun _ h9 => List.mem_cons_of_mem _ (List.mem_append_left _ (List.mem_append_right _ h9))) hown hK hP 0 (wM_0 cy ad us13 X) rfl 5 (by decide) (hts (Cond.fieldLink RX3 45 "HeadGridModel" "thrown" "I") (List.mem_of_getElem? (i := 1) rfl)) (fun _ h9 => h9) (by rw [h_thrown]; rfl) dX3_setLevels_43 ?_
        refine wn_if_eq (tgt := 51) hx hb dX3_setLevels_46 (by decide) (by omega) (fun c14 => (by first | exact absurd c14 (by decide) | exact absurd (by decide) c14)) (fun _ => ?_)
        refine lv_iconst (v := nI 0) hx hb dX3_setLevels_49 (by decide) ?_
        exact W.iret (v := (nI 0)) hx hb hr (fun t ht hW => ⟨⟨(nI 0), us13, rfl, (by rw [cC, cV, cW]; exact ⟨h_thrown.symm, fun _ => ⟨qus13_1, qus13_21, qus13_k⟩, fun q9 => absurd q9 (by simp)⟩), by rw [ht]; exact hP, va_K.moved hW.alike hK, hD⟩, hS.F ht⟩) hS.2.2 dX3_setLevels_50
  · refine lv_iconst (v := nI 1) hx hb dX3_setLevels_8 (by decide) ?_
    refine lv_goto (tgt := 39) hx hb dX3_setLevels_9 (by decide) ?_
    refine va_put (D := dd) (ci := 5) (v := .int (nI 1)) (ty := .int) (C := RX3) (T := TX3) (N := 15) hx hb hts (fun _ h9 => List.mem_cons_of_mem _ (List.mem_append_left _ (List.mem_append_right _ h9))) tyX3 tyX3_ok nmX3 hown hK hP hD hS 0 (wM_0 cy ad u X) rfl 5 (by decide) (hts (Cond.fieldLink RX3 45 "HeadGridModel" "thrown" "I") (List.mem_of_getElem? (i := 1) rfl)) (fun _ h9 => h9) rfl (tyX3_ok 5 (by decide)) rfl rfl (Nat.le_of_ble_eq_true rfl) dX3_setLevels_39 (fun H locs hP hD hS => ?_)
    have hP : va_P dd vwCl (wM cy ad (u.1, u.2.1, u.2.2.1, u.2.2.2.1, (nI 1), u.2.2.2.2.2) ++ X) H := hP
    have hD : va_D A (wM cy ad (u.1, u.2.1, u.2.2.1, u.2.2.2.1, (nI 1), u.2.2.2.2.2) ++ X) := hD
    obtain ⟨us15, hus15⟩ : ∃ z9z : MS, z9z = (u.1, u.2.1, u.2.2.1, u.2.2.2.1, (nI 1), u.2.2.2.2.2) := ⟨_, rfl⟩
    rw [← hus15] at hP hD
    have pus15_1 : us15.1 = u.1 := by rw [hus15]
    have pus15_21 : us15.2.1 = u.2.1 := by rw [hus15]
    have pus15_221 : us15.2.2.1 = u.2.2.1 := by rw [hus15]
    have pus15_kept : us15.2.2.2.1 = u.2.2.2.1 := by rw [hus15]
    have h_kept : (nI n) = us15.2.2.2.1 := by rw [pus15_kept]; exact h_kept
    have h_thrown : (nI 1) = us15.2.2.2.2.1 := by rw [hus15]
    have pus15_whole : us15.2.2.2.2.2.1 = u.2.2.2.2.2.1 := by rw [hus15]
    have pus15_hash : us15.2.2.2.2.2.2 = u.2.2.2.2.2.2 := by rw [hus15]
    have qus15_1 : us15.1 = u.1 := pus15_1.trans rfl
    have qus15_21 : us15.2.1 = u.2.1 := pus15_21.trans rfl
    have qus15_k : us15.2.2.2.1 = u.2.2.2.1 := pus15_kept.trans rfl
    refine lv_aload_n hx hb dX3_setLevels_42 rfl (lv_at hl 0 rfl) ?_
    refine va_get (D := dd) (ci := 5) (v := .int (nI 1)) (C := RX3) (T := TX3) (N := 15) hx hb hts (fun _ h9 => List.mem_cons_of_mem _ (List.mem_append_left _ (List.mem_append_right _ h9))) hown hK hP 0 (wM_0 cy ad us15 X) rfl 5 (by decide) (hts (Cond.fieldLink RX3 45 "HeadGridModel" "thrown" "I") (List.mem_of_getElem? (i := 1) rfl)) (fun _ h9 => h9) (by rw [h_thrown]; rfl) dX3_setLevels_43 ?_
    refine wn_if_eq (tgt := 51) hx hb dX3_setLevels_46 (by decide) (by omega) (fun c16 => (by first | exact absurd c16 (by decide) | exact absurd (by decide) c16)) (fun _ => ?_)
    refine lv_iconst (v := nI 0) hx hb dX3_setLevels_49 (by decide) ?_
    exact W.iret (v := (nI 0)) hx hb hr (fun t ht hW => ⟨⟨(nI 0), us15, rfl, (by rw [cC]; exact ⟨h_thrown.symm, fun _ => ⟨qus15_1, qus15_21, qus15_k⟩, fun q9 => absurd q9 (by simp)⟩), by rw [ht]; exact hP, va_K.moved hW.alike hK, hD⟩, hS.F ht⟩) hS.2.2 dX3_setLevels_50
theorem hd_X3_undo : yX3_undo.cls = RX3 ∧ yX3_undo.cls ≠ "java/lang/invoke/MethodHandle" ∧ yX3_undo.cls ≠ "java/lang/invoke/VarHandle" ∧ (parseMethodDescriptor yX3_undo.desc).map (fun d => d.parameters.length) = some 0 := by decide +kernel
set_option maxHeartbeats 4000000 in
set_option maxRecDepth 100000 in
/-- undo() -/
theorem c_X3_undo (l : Launch) (dd : va_G) (cy : Nat → ClassId) (ad : Nat → Nat) (X : va_W) (u : MS) (sz : Nat) (n : Nat) (hn : n ≤ 4) (h_kept : nI n = u.2.2.2.1) : Met l yX3_undo wsX3_undo ({ frames := 0, cells := 0, slots := 0, locals := 0 }) (va_Pc [.ref (ad 0)] (wrW dd cy (wM cy ad u ++ X) sz)) (va_Qi (fun r u9 => u9.2.2.2.2.1 = nI (if n = 0 then 1 else 0) ∧ (n = 0 → u9.1 = u.1 ∧ u9.2.1 = u.2.1 ∧ u9.2.2.2.1 = u.2.2.2.1) ∧ (n ≠ 0 → r = nI (n - 1) ∧ u9.2.2.2.1 = nI (n - 1) ∧ u9.1 3 = u.1 3 ∧ u9.2.1 4 = u.2.1 4 ∧ (∀ j, j < 72 → u9.1 1 j = u.1 3 (72 * (n - 1) + j)) ∧ ∀ j, j < 9 → u9.2.1 2 j = u.2.1 4 (9 * (n - 1) + j))) (wB dd cy (fun u9 : MS => wM cy ad u9 ++ X) (va_A (wM cy ad u ++ X) sz)) (va_A (wM cy ad u ++ X) sz)) 0 0 (va_A (wM cy ad u ++ X) sz) := by
  refine Met.ofW (cc := cX3_undo) (maxL := 2) (ret := (some .int)) (by decide) rfl ?_
  intro p e s m args below meth c s₁ B hml hv
  obtain ⟨rfl, hsz, hP, hK, hD0⟩ := hv
  have hx := B.exec
  have hb := B.bytes
  have hr := B.returns
  have hts := atoms_spec (ws := wsX3_undo) B.pre
  have hown : s.vm.findClass RX3 = some m.cls := findClass_of_methodNamed B.named
  have hlocks := B.notSynchronized
  subst hsz
  have hD := hD0.self (sz := s.heap.size)
  generalize hAe : va_A (wM cy ad u ++ X) s.heap.size = A at hD ⊢
  have hA : ∀ q : Nat, s.heap.size ≤ q → A q := fun q h => by rw [← hAe]; exact Or.inr h
  have hS : va_S A s.heap s.heap [] := va_S.rf
  have hl := lv_entry ([.ref (ad 0)]) (n := 2) (Nat.le_of_ble_eq_true rfl)
  rw [lg_entry_eq]
  generalize (lg_sl ([.ref (ad 0)]) ++ List.replicate (2 - (lg_sl ([.ref (ad 0)])).length) Slot.unset).toArray = ls at hl ⊢
  have hl : lv_has ls 2 [(0, .ref (ad 0))] := hl
  refine lv_aload_n hx hb dX3_undo_0 rfl (lv_at hl 0 rfl) ?_
  refine lv_aload_n hx hb dX3_undo_1 rfl (lv_at hl 0 rfl) ?_
  refine va_get (D := dd) (ci := 5) (v := .int (nI n)) (C := RX3) (T := TX3) (N := 15) hx hb hts (fun _ h9 => List.mem_cons_of_mem _ (List.mem_append_left _ (List.mem_append_right _ h9))) hown hK hP 0 (wM_0 cy ad u X) rfl 4 (by decide) (hts (Cond.fieldLink RX3 53 "HeadGridModel" "kept" "I") (List.mem_of_getElem? (i := 1) rfl)) (fun _ h9 => h9) (by rw [h_kept]; rfl) dX3_undo_2 ?_
  refine wn_if_ne (tgt := 12) hx hb dX3_undo_5 (by decide) (by omega) (fun cN => ?_) (fun cN => ?_)
  · refine lv_iconst (v := nI 0) hx hb dX3_undo_12 (by decide) ?_
    refine va_put (D := dd) (ci := 5) (v := .int (nI 0)) (ty := .int) (C := RX3) (T := TX3) (N := 15) hx hb hts (fun _ h9 => List.mem_cons_of_mem _ (List.mem_append_left _ (List.mem_append_right _ h9))) tyX3 tyX3_ok nmX3 hown hK hP hD hS 0 (wM_0 cy ad u X) rfl 5 (by decide) (hts (Cond.fieldLink RX3 45 "HeadGridModel" "thrown" "I") (List.mem_of_getElem? (i := 2) rfl)) (fun _ h9 => h9) rfl (tyX3_ok 5 (by decide)) rfl rfl (Nat.le_of_ble_eq_true rfl) dX3_undo_13 (fun H locs hP hD hS => ?_)
    have hP : va_P dd vwCl (wM cy ad (u.1, u.2.1, u.2.2.1, u.2.2.2.1, (nI 0), u.2.2.2.2.2) ++ X) H := hP
    have hD : va_D A (wM cy ad (u.1, u.2.1, u.2.2.1, u.2.2.2.1, (nI 0), u.2.2.2.2.2) ++ X) := hD
    obtain ⟨us1, hus1⟩ : ∃ z9z : MS, z9z = (u.1, u.2.1, u.2.2.1, u.2.2.2.1, (nI 0), u.2.2.2.2.2) := ⟨_, rfl⟩
    rw [← hus1] at hP hD
    have pus1_1 : us1.1 = u.1 := by rw [hus1]
    have pus1_21 : us1.2.1 = u.2.1 := by rw [hus1]
    have pus1_221 : us1.2.2.1 = u.2.2.1 := by rw [hus1]
    have pus1_kept : us1.2.2.2.1 = u.2.2.2.1 := by rw [hus1]
    have h_kept : (nI n) = us1.2.2.2.1 := by rw [pus1_kept]; exact h_kept
    have h_thrown : (nI 0) = us1.2.2.2.2.1 := by rw [hus1]
    have pus1_whole : us1.2.2.2.2.2.1 = u.2.2.2.2.2.1 := by rw [hus1]
    have pus1_hash : us1.2.2.2.2.2.2 = u.2.2.2.2.2.2 := by rw [hus1]
    have qus1_1 : us1.1 = u.1 := pus1_1.trans rfl
    have qus1_21 : us1.2.1 = u.2.1 := pus1_21.trans rfl
    have qus1_k : us1.2.2.2.1 = u.2.2.2.1 := pus1_kept.trans rfl
    refine lv_aload_n hx hb dX3_undo_16 rfl (lv_at hl 0 rfl) ?_
    refine va_get (D := dd) (ci := 5) (v := .int (nI 0)) (C := RX3) (T := TX3) (N := 15) hx hb hts (fun _ h9 => List.mem_cons_of_mem _ (List.mem_append_left _ (List.mem_append_right _ h9))) hown hK hP 0 (wM_0 cy ad us1 X) rfl 5 (by decide) (hts (Cond.fieldLink RX3 45 "HeadGridModel" "thrown" "I") (List.mem_of_getElem? (i := 2) rfl)) (fun _ h9 => h9) (by rw [h_thrown]; rfl) dX3_undo_17 ?_
    refine wn_if_eq (tgt := 25) hx hb dX3_undo_20 (by decide) (by omega) (fun _ => ?_) (fun c2 => (by first | exact absurd (by decide) c2 | exact absurd c2 (by decide)))
    refine lv_aload_n hx hb dX3_undo_25 rfl (lv_at hl 0 rfl) ?_
    refine lv_dup hx hb dX3_undo_26 rfl ?_
    refine va_get (D := dd) (ci := 5) (v := .int (nI n)) (C := RX3) (T := TX3) (N := 15) hx hb hts (fun _ h9 => List.mem_cons_of_mem _ (List.mem_append_left _ (List.mem_append_right _ h9))) hown hK hP 0 (wM_0 cy ad us1 X) rfl 4 (by decide) (hts (Cond.fieldLink RX3 53 "HeadGridModel" "kept" "I") (List.mem_of_getElem? (i := 1) rfl)) (fun _ h9 => h9) (by rw [h_kept]; rfl) dX3_undo_27 ?_
    refine lv_iconst (v := nI 1) hx hb dX3_undo_30 (by decide) ?_
    refine wn_isub hx hb dX3_undo_31 (by omega) ?_
    refine va_put (D := dd) (ci := 5) (v := .int (nI (n - 1))) (ty := .int) (C := RX3) (T := TX3) (N := 15) hx hb hts (fun _ h9 => List.mem_cons_of_mem _ (List.mem_append_left _ (List.mem_append_right _ h9))) tyX3 tyX3_ok nmX3 hown hK hP hD hS 0 (wM_0 cy ad us1 X) rfl 4 (by decide) (hts (Cond.fieldLink RX3 53 "HeadGridModel" "kept" "I") (List.mem_of_getElem? (i := 1) rfl)) (fun _ h9 => h9) rfl (tyX3_ok 4 (by decide)) rfl rfl (Nat.le_of_ble_eq_true rfl) dX3_undo_32 (fun H locs hP hD hS => ?_)
    have hP : va_P dd vwCl (wM cy ad (us1.1, us1.2.1, us1.2.2.1, (nI (n - 1)), us1.2.2.2.2) ++ X) H := hP
    have hD : va_D A (wM cy ad (us1.1, us1.2.1, us1.2.2.1, (nI (n - 1)), us1.2.2.2.2) ++ X) := hD
    obtain ⟨us3, hus3⟩ : ∃ z9z : MS, z9z = (us1.1, us1.2.1, us1.2.2.1, (nI (n - 1)), us1.2.2.2.2) := ⟨_, rfl⟩
    rw [← hus3] at hP hD
    have pus3_1 : us3.1 = us1.1 := by rw [hus3]
    have pus3_21 : us3.2.1 = us1.2.1 := by rw [hus3]
    have pus3_221 : us3.2.2.1 = us1.2.2.1 := by rw [hus3]
    have h_kept : (nI (n - 1)) = us3.2.2.2.1 := by rw [hus3]
    have pus3_thrown : us3.2.2.2.2.1 = us1.2.2.2.2.1 := by rw [hus3]
    have h_thrown : (nI 0) = us3.2.2.2.2.1 := by rw [pus3_thrown]; exact h_thrown
    have pus3_whole : us3.2.2.2.2.2.1 = us1.2.2.2.2.2.1 := by rw [hus3]
    have pus3_hash : us3.2.2.2.2.2.2 = us1.2.2.2.2.2.2 := by rw [hus3]
    have qus3_1 : us3.1 = u.1 := pus3_1.trans qus1_1
    have qus3_21 : us3.2.1 = u.2.1 := pus3_21.trans qus1_21
    refine lv_iconst (v := nI 0) hx hb dX3_undo_35 (by decide) ?_
    refine lv_istore_n (lv' := [(1, .int (nI 0)), (0, .ref (ad 0))]) hx hb dX3_undo_36 rfl hl (by decide) rfl (fun ls hl => ?_)
    obtain ⟨uB, huB⟩ : ∃ z9z, z9z = us3 := ⟨_, rfl⟩
    rw [← huB] at hP hD
    have h_kept : nI (n - 1) = uB.2.2.2.1 := by rw [huB]; exact h_kept
    have hB : uB.1 = u.1 ∧ uB.2.1 = u.2.1 ∧ uB.2.2.2.2.1 = nI 0 := by rw [huB]; exact ⟨qus3_1, qus3_21, h_thrown.symm⟩
    refine wLoop (σ := Nat × MS) (fun k x H locs ls => k = 72 - x.1 ∧ (x.1 ≤ 72) ∧ (frI 1 uB x.2) ∧ (∀ i9, i9 < x.1 → x.2.1 1 i9 = uB.1 3 (72 * (n - 1) + i9)) ∧ (nI (n - 1) = x.2.2.2.2.1) ∧ va_P dd vwCl (wM cy ad x.2 ++ X) H ∧ va_D A (wM cy ad x.2 ++ X) ∧ va_S A s.heap H locs ∧ lv_has ls 2 [(1, .int (nI x.1)), (0, .ref (ad 0))]) ?_ _ (0, uB) _ _ _ ⟨rfl, (by omega), frI_rf, (fun i9 h9 => absurd h9 (Nat.not_lt_zero i9)), h_kept, hP, hD, hS, lv_sub hl [0, 1] rfl⟩
    intro kc x H locs ls hI ihc
    obtain ⟨j0, u1⟩ := x
    obtain ⟨hkc, hj, hF, hs, h_kept, hP, hD, hS, hl⟩ := hI
    have hkc : kc = 72 - j0 := hkc
    have hj : j0 ≤ 72 := hj
    have hF : frI 1 uB u1 := hF
    have hs : ∀ i9, i9 < j0 → u1.1 1 i9 = uB.1 3 (72 * (n - 1) + i9) := hs
    have h_kept : nI (n - 1) = u1.2.2.2.1 := h_kept
    have hP : va_P dd vwCl (wM cy ad u1 ++ X) H := hP
    have hD : va_D A (wM cy ad u1 ++ X) := hD
    have hl : lv_has ls 2 [(1, .int (nI j0)), (0, .ref (ad 0))] := hl
    refine lv_iload_n hx hb dX3_undo_37 rfl (lv_at hl 0 rfl) ?_
    refine lv_bipush (v := nI 72) hx hb dX3_undo_38 (by decide) ?_
    refine wn_icmp_ge (tgt := 69) hx hb dX3_undo_40 (by decide) (by omega) (by omega) (fun c4 => ?_) (fun c4 => ?_)
    · refine lv_iconst (v := nI 0) hx hb dX3_undo_69 (by decide) ?_
      refine lv_istore_n (lv' := [(1, .int (nI 0)), (0, .ref (ad 0))]) hx hb dX3_undo_70 rfl hl (by decide) rfl (fun ls hl => ?_)
      have hsC := hs
      have hFC := hF
      rw [show j0 = 72 by omega] at hsC
      obtain ⟨uC, huC⟩ : ∃ z9z, z9z = u1 := ⟨_, rfl⟩
      rw [← huC] at hP hD hsC hFC h_kept
      refine wLoop (σ := Nat × MS) (fun k x H locs ls => k = 9 - x.1 ∧ (x.1 ≤ 9) ∧ (frD 2 uC x.2) ∧ (∀ i9, i9 < x.1 → x.2.2.1 2 i9 = uC.2.1 4 (9 * (n - 1) + i9)) ∧ (nI (n - 1) = x.2.2.2.2.1) ∧ va_P dd vwCl (wM cy ad x.2 ++ X) H ∧ va_D A (wM cy ad x.2 ++ X) ∧ va_S A s.heap H locs ∧ lv_has ls 2 [(1, .int (nI x.1)), (0, .ref (ad 0))]) ?_ _ (0, uC) _ _ _ ⟨rfl, (by omega), frD_rf, (fun i9 h9 => absurd h9 (Nat.not_lt_zero i9)), h_kept, hP, hD, hS, lv_sub hl [0, 1] rfl⟩
      intro kd x H locs ls hI ihd
      obtain ⟨j0, u1⟩ := x
      obtain ⟨hkd, hj, hF, hs, h_kept, hP, hD, hS, hl⟩ := hI
      have hkd : kd = 9 - j0 := hkd
      have hj : j0 ≤ 9 := hj
      have hF : frD 2 uC u1 := hF
      have hs : ∀ i9, i9 < j0 → u1.2.1 2 i9 = uC.2.1 4 (9 * (n - 1) + i9) := hs
      have h_kept : nI (n - 1) = u1.2.2.2.1 := h_kept
      have hP : va_P dd vwCl (wM cy ad u1 ++ X) H := hP
      have hD : va_D A (wM cy ad u1 ++ X) := hD
      have hl : lv_has ls 2 [(1, .int (nI j0)), (0, .ref (ad 0))] := hl
      refine lv_iload_n hx hb dX3_undo_71 rfl (lv_at hl 0 rfl) ?_
      refine lv_bipush (v := nI 9) hx hb dX3_undo_72 (by decide) ?_
      refine wn_icmp_ge (tgt := 103) hx hb dX3_undo_74 (by decide) (by omega) (by omega) (fun c5 => ?_) (fun c5 => ?_)
      · refine lv_aload_n hx hb dX3_undo_103 rfl (lv_at hl 1 rfl) ?_
        refine va_get (D := dd) (ci := 5) (v := .int (nI (n - 1))) (C := RX3) (T := TX3) (N := 15) hx hb hts (fun _ h9 => List.mem_cons_of_mem _ (List.mem_append_left _ (List.mem_append_right _ h9))) hown hK hP 0 (wM_0 cy ad u1 X) rfl 4 (by decide) (hts (Cond.fieldLink RX3 53 "HeadGridModel" "kept" "I") (List.mem_of_getElem? (i := 1) rfl)) (fun _ h9 => h9) (by rw [h_kept]; rfl) dX3_undo_104 ?_
        exact W.iret (v := (nI (n - 1))) hx hb hr (fun t ht hW => ⟨⟨(nI (n - 1)), u1, rfl, (by rw [if_neg cN]; exact ⟨by rw [hF.2.2, hFC.2]; exact hB.2.2, fun q9 => absurd q9 cN, fun _ => ⟨rfl, h_kept.symm, by rw [hF.1, hFC.1 3 (by decide), hB.1], by rw [hF.2.1 4 (by decide), hFC.2, hB.2.1], fun j9 hj9 => by rw [hF.1, hsC j9 hj9, hB.1], fun j9 hj9 => by rw [hs j9 (by omega), hFC.2, hB.2.1]⟩⟩), by rw [ht]; exact hP, va_K.moved hW.alike hK, hD⟩, hS.F ht⟩) hS.2.2 dX3_undo_107
      · refine lv_aload_n hx hb dX3_undo_77 rfl (lv_at hl 1 rfl) ?_
        refine va_get (D := dd) (ci := 5) (v := .ref (ad 2)) (C := RX3) (T := TX3) (N := 15) hx hb hts (fun _ h9 => List.mem_cons_of_mem _ (List.mem_append_left _ (List.mem_append_right _ h9))) hown hK hP 0 (wM_0 cy ad u1 X) rfl 1 (by decide) (hts (Cond.fieldLink RX3 13 "HeadGridModel" "relaxed" "[D") (List.mem_of_getElem? (i := 5) rfl)) (fun _ h9 => h9) rfl dX3_undo_78 ?_
        refine lv_iload_n hx hb dX3_undo_81 rfl (lv_at hl 0 rfl) ?_
        refine lv_aload_n hx hb dX3_undo_82 rfl (lv_at hl 1 rfl) ?_
        refine va_get (D := dd) (ci := 5) (v := .ref (ad 4)) (C := RX3) (T := TX3) (N := 15) hx hb hts (fun _ h9 => List.mem_cons_of_mem _ (List.mem_append_left _ (List.mem_append_right _ h9))) hown hK hP 0 (wM_0 cy ad u1 X) rfl 3 (by decide) (hts (Cond.fieldLink RX3 20 "HeadGridModel" "pastRelaxed" "[D") (List.mem_of_getElem? (i := 6) rfl)) (fun _ h9 => h9) rfl dX3_undo_83 ?_
        refine lv_bipush (v := nI 9) hx hb dX3_undo_86 (by decide) ?_
        refine lv_aload_n hx hb dX3_undo_88 rfl (lv_at hl 1 rfl) ?_
        refine va_get (D := dd) (ci := 5) (v := .int (nI (n - 1))) (C := RX3) (T := TX3) (N := 15) hx hb hts (fun _ h9 => List.mem_cons_of_mem _ (List.mem_append_left _ (List.mem_append_right _ h9))) hown hK hP 0 (wM_0 cy ad u1 X) rfl 4 (by decide) (hts (Cond.fieldLink RX3 53 "HeadGridModel" "kept" "I") (List.mem_of_getElem? (i := 1) rfl)) (fun _ h9 => h9) (by rw [h_kept]; rfl) dX3_undo_89 ?_
        refine wn_imul hx hb dX3_undo_92 ?_
        refine lv_iload_n hx hb dX3_undo_93 rfl (lv_at hl 0 rfl) ?_
        refine wn_iadd hx hb dX3_undo_94 ?_
        refine wa_dald hx hb hK hP (wM_4 cy ad u1 X) (t0 := 2) rfl (i := (9 * (n - 1)) + j0) (by omega) (by decide) dX3_undo_95 ?_
        refine lv_topd (fun x6 ex6 => ?_)
        refine wa_dast hx hb hK hP hD hS (wM_2 cy ad u1 X) (t0 := 2) rfl (i := j0) (by omega) (by decide) dX3_undo_96 (wM_s2 cy ad u1 X _) (fun H locs hP hD hS => ?_)
        obtain ⟨us7, hus7⟩ : ∃ z9z : MS, z9z = (u1.1, va_up u1.2.1 2 (vf_upd (u1.2.1 2) j0 x6), u1.2.2) := ⟨_, rfl⟩
        rw [← hus7] at hP hD
        have pus7_s : us7.2.1 2 = (vf_upd (u1.2.1 2) j0 x6) := by rw [hus7]; rfl
        have pus7_o : ∀ j9, j9 ≠ 2 → us7.2.1 j9 = u1.2.1 j9 := fun j9 h9 => by rw [hus7]; exact va_up_n h9
        have pus7_1 : us7.1 = u1.1 := by rw [hus7]
        have pus7_221 : us7.2.2.1 = u1.2.2.1 := by rw [hus7]
        have pus7_222 : us7.2.2.2 = u1.2.2.2 := by rw [hus7]
        have h_kept : (nI (n - 1)) = us7.2.2.2.1 := by rw [hus7]; exact h_kept
        refine lv_iinc (v := (nI (j0 + 1))) (lv' := [(1, .int (nI (j0 + 1))), (0, .ref (ad 0))]) hx hb dX3_undo_97 hl (k := 0) rfl (nI_1 _) (by decide) rfl (fun ls hl => ?_)
        refine lv_goto (tgt := 71) hx hb dX3_undo_100 (by decide) ?_
        exact ihd (9 - (j0 + 1)) (j0 + 1, us7) _ _ ls (by omega) ⟨rfl, (by omega), (frD_set hF hus7), (fun i9 h9 => by rw [pus7_s]; exact (Classical.em (i9 = j0)).elim (fun e9 => by rw [e9, vf_s, ex6, hF.2.1 4 (by decide)]) (fun e9 => by rw [vf_n e9]; exact hs i9 (by omega))), h_kept, hP, hD, hS, lv_sub hl [0, 1] rfl⟩
    · refine lv_aload_n hx hb dX3_undo_43 rfl (lv_at hl 1 rfl) ?_
      refine va_get (D := dd) (ci := 5) (v := .ref (ad 1)) (C := RX3) (T := TX3) (N := 15) hx hb hts (fun _ h9 => List.mem_cons_of_mem _ (List.mem_append_left _ (List.mem_append_right _ h9))) hown hK hP 0 (wM_0 cy ad u1 X) rfl 0 (by decide) (hts (Cond.fieldLink RX3 7 "HeadGridModel" "now" "[I") (List.mem_of_getElem? (i := 3) rfl)) (fun _ h9 => h9) rfl dX3_undo_44 ?_
      refine lv_iload_n hx hb dX3_undo_47 rfl (lv_at hl 0 rfl) ?_
      refine lv_aload_n hx hb dX3_undo_48 rfl (lv_at hl 1 rfl) ?_
      refine va_get (D := dd) (ci := 5) (v := .ref (ad 3)) (C := RX3) (T := TX3) (N := 15) hx hb hts (fun _ h9 => List.mem_cons_of_mem _ (List.mem_append_left _ (List.mem_append_right _ h9))) hown hK hP 0 (wM_0 cy ad u1 X) rfl 2 (by decide) (hts (Cond.fieldLink RX3 17 "HeadGridModel" "past" "[I") (List.mem_of_getElem? (i := 4) rfl)) (fun _ h9 => h9) rfl dX3_undo_49 ?_
      refine lv_bipush (v := nI 72) hx hb dX3_undo_52 (by decide) ?_
      refine lv_aload_n hx hb dX3_undo_54 rfl (lv_at hl 1 rfl) ?_
      refine va_get (D := dd) (ci := 5) (v := .int (nI (n - 1))) (C := RX3) (T := TX3) (N := 15) hx hb hts (fun _ h9 => List.mem_cons_of_mem _ (List.mem_append_left _ (List.mem_append_right _ h9))) hown hK hP 0 (wM_0 cy ad u1 X) rfl 4 (by decide) (hts (Cond.fieldLink RX3 53 "HeadGridModel" "kept" "I") (List.mem_of_getElem? (i := 1) rfl)) (fun _ h9 => h9) (by rw [h_kept]; rfl) dX3_undo_55 ?_
      refine wn_imul hx hb dX3_undo_58 ?_
      refine lv_iload_n hx hb dX3_undo_59 rfl (lv_at hl 0 rfl) ?_
      refine wn_iadd hx hb dX3_undo_60 ?_
      refine wa_iald hx hb hK hP (wM_3 cy ad u1 X) (t0 := 0) rfl (i := (72 * (n - 1)) + j0) (by omega) (by decide) dX3_undo_61 ?_
      refine lv_topi (fun x8 ex8 => ?_)
      refine wa_iast hx hb hK hP hD hS (wM_1 cy ad u1 X) (t0 := 0) rfl (i := j0) (by omega) (by decide) dX3_undo_62 (wM_s1 cy ad u1 X _) (fun H locs hP hD hS => ?_)
      obtain ⟨us9, hus9⟩ : ∃ z9z : MS, z9z = (va_up u1.1 1 (upd (u1.1 1) j0 x8), u1.2) := ⟨_, rfl⟩
      rw [← hus9] at hP hD
      have pus9_s : us9.1 1 = (upd (u1.1 1) j0 x8) := by rw [hus9]; rfl
      have pus9_o : ∀ j9, j9 ≠ 1 → us9.1 j9 = u1.1 j9 := fun j9 h9 => by rw [hus9]; exact va_up_n h9
      have pus9_21 : us9.2.1 = u1.2.1 := by rw [hus9]
      have pus9_221 : us9.2.2.1 = u1.2.2.1 := by rw [hus9]
      have pus9_222 : us9.2.2.2 = u1.2.2.2 := by rw [hus9]
      have h_kept : (nI (n - 1)) = us9.2.2.2.1 := by rw [hus9]; exact h_kept
      refine lv_iinc (v := (nI (j0 + 1))) (lv' := [(1, .int (nI (j0 + 1))), (0, .ref (ad 0))]) hx hb dX3_undo_63 hl (k := 0) rfl (nI_1 _) (by decide) rfl (fun ls hl => ?_)
      refine lv_goto (tgt := 37) hx hb dX3_undo_66 (by decide) ?_
      exact ihc (72 - (j0 + 1)) (j0 + 1, us9) _ _ ls (by omega) ⟨rfl, (by omega), (frI_set hF hus9), (fun i9 h9 => by rw [pus9_s]; exact (Classical.em (i9 = j0)).elim (fun e9 => by rw [e9, pk_us, ex8, hF.1 3 (by decide)]) (fun e9 => by rw [pk_un e9]; exact hs i9 (by omega))), h_kept, hP, hD, hS, lv_sub hl [0, 1] rfl⟩
  · refine lv_iconst (v := nI 1) hx hb dX3_undo_8 (by decide) ?_
    refine lv_goto (tgt := 13) hx hb dX3_undo_9 (by decide) ?_
    refine va_put (D := dd) (ci := 5) (v := .int (nI 1)) (ty := .int) (C := RX3) (T := TX3) (N := 15) hx hb hts (fun _ h9 => List.mem_cons_of_mem _ (List.mem_append_left _ (List.mem_append_right _ h9))) tyX3 tyX3_ok nmX3 hown hK hP hD hS 0 (wM_0 cy ad u X) rfl 5 (by decide) (hts (Cond.fieldLink RX3 45 "HeadGridModel" "thrown" "I") (List.mem_of_getElem? (i := 2) rfl)) (fun _ h9 => h9) rfl (tyX3_ok 5 (by decide)) rfl rfl (Nat.le_of_ble_eq_true rfl) dX3_undo_13 (fun H locs hP hD hS => ?_)
    have hP : va_P dd vwCl (wM cy ad (u.1, u.2.1, u.2.2.1, u.2.2.2.1, (nI 1), u.2.2.2.2.2) ++ X) H := hP
    have hD : va_D A (wM cy ad (u.1, u.2.1, u.2.2.1, u.2.2.2.1, (nI 1), u.2.2.2.2.2) ++ X) := hD
    obtain ⟨us10, hus10⟩ : ∃ z9z : MS, z9z = (u.1, u.2.1, u.2.2.1, u.2.2.2.1, (nI 1), u.2.2.2.2.2) := ⟨_, rfl⟩
    rw [← hus10] at hP hD
    have pus10_1 : us10.1 = u.1 := by rw [hus10]
    have pus10_21 : us10.2.1 = u.2.1 := by rw [hus10]
    have pus10_221 : us10.2.2.1 = u.2.2.1 := by rw [hus10]
    have pus10_kept : us10.2.2.2.1 = u.2.2.2.1 := by rw [hus10]
    have h_kept : (nI n) = us10.2.2.2.1 := by rw [pus10_kept]; exact h_kept
    have h_thrown : (nI 1) = us10.2.2.2.2.1 := by rw [hus10]
    have pus10_whole : us10.2.2.2.2.2.1 = u.2.2.2.2.2.1 := by rw [hus10]
    have pus10_hash : us10.2.2.2.2.2.2 = u.2.2.2.2.2.2 := by rw [hus10]
    have qus10_1 : us10.1 = u.1 := pus10_1.trans rfl
    have qus10_21 : us10.2.1 = u.2.1 := pus10_21.trans rfl
    have qus10_k : us10.2.2.2.1 = u.2.2.2.1 := pus10_kept.trans rfl
    refine lv_aload_n hx hb dX3_undo_16 rfl (lv_at hl 0 rfl) ?_
    refine va_get (D := dd) (ci := 5) (v := .int (nI 1)) (C := RX3) (T := TX3) (N := 15) hx hb hts (fun _ h9 => List.mem_cons_of_mem _ (List.mem_append_left _ (List.mem_append_right _ h9))) hown hK hP 0 (wM_0 cy ad us10 X) rfl 5 (by decide) (hts (Cond.fieldLink RX3 45 "HeadGridModel" "thrown" "I") (List.mem_of_getElem? (i := 2) rfl)) (fun _ h9 => h9) (by rw [h_thrown]; rfl) dX3_undo_17 ?_
    refine wn_if_eq (tgt := 25) hx hb dX3_undo_20 (by decide) (by omega) (fun c11 => (by first | exact absurd c11 (by decide) | exact absurd (by decide) c11)) (fun _ => ?_)
    refine lv_iconst (v := nI 0) hx hb dX3_undo_23 (by decide) ?_
    exact W.iret (v := (nI 0)) hx hb hr (fun t ht hW => ⟨⟨(nI 0), us10, rfl, (by rw [if_pos cN]; exact ⟨h_thrown.symm, fun _ => ⟨qus10_1, qus10_21, qus10_k⟩, fun q9 => absurd cN q9⟩), by rw [ht]; exact hP, va_K.moved hW.alike hK, hD⟩, hS.F ht⟩) hS.2.2 dX3_undo_24

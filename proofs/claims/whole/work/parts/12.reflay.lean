/-! the reference: the hash, the matrix laid -/
/-- all but some of the rows of longs is as it was -/
def frJ (ks : List Nat) (u u1 : MS) : Prop := u1.1 = u.1 ∧ u1.2.1 = u.2.1 ∧ u1.2.2.2 = u.2.2.2 ∧ ∀ k, k ∉ ks → u1.2.2.1 k = u.2.2.1 k
theorem frJ_rf {ks : List Nat} {u : MS} : frJ ks u u := ⟨rfl, rfl, rfl, fun _ _ => rfl⟩
theorem frJ_set {ks : List Nat} {u u1 u2 : MS} {k : Nat} {g : Nat → Int64} (h : frJ ks u u1) (hk : k ∈ ks) (e : u2 = (u1.1, u1.2.1, va_up u1.2.2.1 k g, u1.2.2.2)) : frJ ks u u2 := by
  subst e
  exact ⟨h.1, h.2.1, h.2.2.1, fun j hj => (va_up_n (fun q => hj (by rw [q]; exact hk))).trans (h.2.2.2 j hj)⟩
theorem frJ_tr {ks : List Nat} {u u1 u2 : MS} (h : frJ ks u u1) (h2 : frJ ks u1 u2) : frJ ks u u2 := ⟨h2.1.trans h.1, h2.2.1.trans h.2.1, h2.2.2.1.trans h.2.2.1, fun k hk => (h2.2.2.2 k hk).trans (h.2.2.2 k hk)⟩
theorem frJ_mono {ks ks' : List Nat} {u u1 : MS} (h : frJ ks u u1) (hs : ∀ k ∈ ks, k ∈ ks') : frJ ks' u u1 := ⟨h.1, h.2.1, h.2.2.1, fun k hk => h.2.2.2 k (fun q => hk (hs k q))⟩
theorem updL_row {arr f : Nat → Int64} {q j0 : Nat} {v : Int64} (h : ∀ j, j < 9 → arr (9 * q + j) = f j) : ∀ j, j < 9 → vp_updL arr (9 * q + j0) v (9 * q + j) = vp_updL f j0 v j := by
  intro j hj
  unfold vp_updL
  by_cases e : j = j0
  · rw [if_pos (by omega), if_pos e]
  · rw [if_neg (by omega), if_neg e]; exact h j hj
theorem updL_oth {arr : Nat → Int64} {q r j0 j : Nat} {v : Int64} (hr : r ≠ q) (h0 : j0 < 9) (hj : j < 9) : vp_updL arr (9 * q + j0) v (9 * r + j) = arr (9 * r + j) := by
  unfold vp_updL
  rw [if_neg (by omega)]
/-- a row of the matrix when s sides of its cell are done; the right side likewise -/
def lmR (now : Nat → Int32) (c : Nat) : Nat → Nat → Int64
  | 0 => fun _ => 0
  | s + 1 => if ot c s < 9 then vp_updL (vp_updL (lmR now c s) c (lmR now c s c + (now (lk c s)).toInt64)) (ot c s) (vp_updL (lmR now c s) c (lmR now c s c + (now (lk c s)).toInt64) (ot c s) - (now (lk c s)).toInt64) else vp_updL (lmR now c s) c (lmR now c s c + (now (lk c s)).toInt64)
def rtR (now : Nat → Int32) (c : Nat) : Nat → Int64
  | 0 => (now (36 + c) - now (45 + c)).toInt64
  | s + 1 => if ot c s < 9 then rtR now c s else rtR now c s + (now (lk c s) * now (24 + ot c s - 9)).toInt64
def lmO (now : Nat → Int32) (c : Nat) (f5 f6 : Nat → Int64) : Prop := (∀ r, r < 9 → ∀ j, j < 9 → f5 (9 * r + j) = if r < c then lmR now r 4 j else 0) ∧ ∀ r, r < c → f6 r = rtR now r 4
def lmI (now : Nat → Int32) (c s : Nat) (f5 f6 : Nat → Int64) : Prop := (∀ r, r < 9 → r ≠ c → ∀ j, j < 9 → f5 (9 * r + j) = if r < c then lmR now r 4 j else 0) ∧ (∀ j, j < 9 → f5 (9 * c + j) = lmR now c s j) ∧ (∀ r, r < c → f6 r = rtR now r 4) ∧ f6 c = rtR now c s
theorem lmI_start {now : Nat → Int32} {c : Nat} {f5 f6 : Nat → Int64} (h : lmO now c f5 f6) (hc : c < 9) : lmI now c 0 f5 (vp_updL f6 c (now (36 + c) - now (45 + c)).toInt64) := by
  refine ⟨fun r hr _ j hj => h.1 r hr j hj, fun j hj => ?_, fun r hr => ?_, ?_⟩
  · rw [h.1 c hc j hj, if_neg (Nat.lt_irrefl c)]; rfl
  · unfold vp_updL; rw [if_neg (by omega)]; exact h.2 r hr
  · unfold vp_updL; rw [if_pos rfl]; rfl
theorem lmI_next {now : Nat → Int32} {c : Nat} {f5 f6 : Nat → Int64} (h : lmI now c 4 f5 f6) : lmO now (c + 1) f5 f6 := by
  refine ⟨fun r hr j hj => ?_, fun r hr => ?_⟩
  · by_cases e : r = c
    · subst e; rw [if_pos (by omega)]; exact h.2.1 j hj
    · rw [h.1 r hr e j hj]
      by_cases q : r < c
      · rw [if_pos q, if_pos (by omega)]
      · rw [if_neg q, if_neg (by omega)]
  · by_cases e : r = c
    · subst e; exact h.2.2.2
    · exact h.2.2.1 r (by omega)
theorem lmI_cell {now : Nat → Int32} {c s : Nat} {f5 f6 : Nat → Int64} (h : lmI now c s f5 f6) (hc : c < 9) (ho : ot c s < 9) : lmI now c (s + 1) (vp_updL (vp_updL f5 (9 * c + c) (f5 (9 * c + c) + (now (lk c s)).toInt64)) (9 * c + ot c s) (vp_updL f5 (9 * c + c) (f5 (9 * c + c) + (now (lk c s)).toInt64) (9 * c + ot c s) - (now (lk c s)).toInt64)) f6 := by
  have g := updL_row (q := c) (j0 := c) (v := f5 (9 * c + c) + (now (lk c s)).toInt64) h.2.1
  refine ⟨fun r hr e j hj => ?_, fun j hj => ?_, h.2.2.1, ?_⟩
  · rw [updL_oth e ho hj, updL_oth e hc hj]; exact h.1 r hr e j hj
  · rw [lmR, if_pos ho, updL_row g j hj, g _ ho, h.2.1 c hc]
  · rw [rtR, if_pos ho]; exact h.2.2.2
theorem lmI_edge {now : Nat → Int32} {c s : Nat} {f5 f6 : Nat → Int64} (h : lmI now c s f5 f6) (hc : c < 9) (ho : ¬ ot c s < 9) : lmI now c (s + 1) (vp_updL f5 (9 * c + c) (f5 (9 * c + c) + (now (lk c s)).toInt64)) (vp_updL f6 c (f6 c + (now (lk c s) * now (24 + ot c s - 9)).toInt64)) := by
  refine ⟨fun r hr e j hj => ?_, fun j hj => ?_, fun r hr => ?_, ?_⟩
  · rw [updL_oth e hc hj]; exact h.1 r hr e j hj
  · rw [lmR, if_neg ho, updL_row h.2.1 j hj, h.2.1 c hc]
  · unfold vp_updL; rw [if_neg (by omega)]; exact h.2.2.1 r hr
  · unfold vp_updL; rw [if_pos rfl, rtR, if_neg ho, h.2.2.2]
theorem hd_X3_mix : yX3_mix.cls = RX3 ∧ yX3_mix.cls ≠ "java/lang/invoke/MethodHandle" ∧ yX3_mix.cls ≠ "java/lang/invoke/VarHandle" ∧ (parseMethodDescriptor yX3_mix.desc).map (fun d => d.parameters.length) = some 1 := by decide +kernel
set_option maxHeartbeats 4000000 in
set_option maxRecDepth 100000 in
/-- mix(v) -/
theorem c_X3_mix (l : Launch) (dd : va_G) (cy : Nat → ClassId) (ad : Nat → Nat) (X : va_W) (u : MS) (sz : Nat) (v : Int64) : Met l yX3_mix wsX3_mix ({ frames := 0, cells := 0, slots := 0, locals := 0 }) (va_Pc [.ref (ad 0), .long v] (wrW dd cy (wM cy ad u ++ X) sz)) (va_Qv (fun u9 => u9 = (u.1, u.2.1, u.2.2.1, u.2.2.2.1, u.2.2.2.2.1, u.2.2.2.2.2.1, 31 * u.2.2.2.2.2.2 + v)) (wB dd cy (fun u9 : MS => wM cy ad u9 ++ X) (va_A (wM cy ad u ++ X) sz)) (va_A (wM cy ad u ++ X) sz)) 0 0 (va_A (wM cy ad u ++ X) sz) := by
  refine Met.ofW (cc := cX3_mix) (maxL := 3) (ret := none) (by decide) rfl ?_
  intro p e s m args below meth c s₁ B hml hv
  obtain ⟨rfl, hsz, hP, hK, hD0⟩ := hv
  have hx := B.exec
  have hb := B.bytes
  have hr := B.returns
  have hts := atoms_spec (ws := wsX3_mix) B.pre
  have hown : s.vm.findClass RX3 = some m.cls := findClass_of_methodNamed B.named
  have hlocks := B.notSynchronized
  subst hsz
  have hD := hD0.self (sz := s.heap.size)
  generalize hAe : va_A (wM cy ad u ++ X) s.heap.size = A at hD ⊢
  have hA : ∀ q : Nat, s.heap.size ≤ q → A q := fun q h => by rw [← hAe]; exact Or.inr h
  have hS : va_S A s.heap s.heap [] := va_S.rf
  have hl := lv_entry ([.ref (ad 0), .long v]) (n := 3) (Nat.le_of_ble_eq_true rfl)
  rw [lg_entry_eq]
  generalize (lg_sl ([.ref (ad 0), .long v]) ++ List.replicate (3 - (lg_sl ([.ref (ad 0), .long v])).length) Slot.unset).toArray = ls at hl ⊢
  have hl : lv_has ls 3 [(0, .ref (ad 0)), (1, .long v)] := hl
  refine lv_aload_n hx hb dX3_mix_0 rfl (lv_at hl 0 rfl) ?_
  refine lv_ldc2 hx hb hown (hts _ (List.mem_of_getElem? (i := 1) rfl)) dX3_mix_1 ?_
  refine lv_aload_n hx hb dX3_mix_4 rfl (lv_at hl 0 rfl) ?_
  refine va_get (D := dd) (ci := 5) (v := .long u.2.2.2.2.2.2) (C := RX3) (T := TX3) (N := 15) hx hb hts (fun _ h9 => List.mem_cons_of_mem _ (List.mem_append_right _ h9)) hown hK hP 0 (wM_0 cy ad u X) rfl 14 (by decide) (hts (Cond.fieldLink RX3 163 "HeadGridModel" "hash" "J") (List.mem_of_getElem? (i := 2) rfl)) (fun _ h9 => h9) rfl dX3_mix_5 ?_
  refine lv_lmul hx hb dX3_mix_8 ?_
  refine lv_lload_n hx hb dX3_mix_9 rfl (lv_at hl 1 rfl) ?_
  refine lv_ladd hx hb dX3_mix_10 ?_
  refine lv_topl (fun x1 ex1 => ?_)
  refine va_put (D := dd) (ci := 5) (v := .long x1) (ty := .long) (C := RX3) (T := TX3) (N := 15) hx hb hts (fun _ h9 => List.mem_cons_of_mem _ (List.mem_append_right _ h9)) tyX3 tyX3_ok nmX3 hown hK hP hD hS 0 (wM_0 cy ad u X) rfl 14 (by decide) (hts (Cond.fieldLink RX3 163 "HeadGridModel" "hash" "J") (List.mem_of_getElem? (i := 2) rfl)) (fun _ h9 => h9) rfl (tyX3_ok 14 (by decide)) rfl rfl (Nat.le_of_ble_eq_true rfl) dX3_mix_11 (fun H locs hP hD hS => ?_)
  have hP : va_P dd vwCl (wM cy ad (u.1, u.2.1, u.2.2.1, u.2.2.2.1, u.2.2.2.2.1, u.2.2.2.2.2.1, x1) ++ X) H := hP
  have hD : va_D A (wM cy ad (u.1, u.2.1, u.2.2.1, u.2.2.2.1, u.2.2.2.2.1, u.2.2.2.2.2.1, x1) ++ X) := hD
  obtain ⟨us2, hus2⟩ : ∃ z9z : MS, z9z = (u.1, u.2.1, u.2.2.1, u.2.2.2.1, u.2.2.2.2.1, u.2.2.2.2.2.1, x1) := ⟨_, rfl⟩
  rw [← hus2] at hP hD
  have pus2_1 : us2.1 = u.1 := by rw [hus2]
  have pus2_21 : us2.2.1 = u.2.1 := by rw [hus2]
  have pus2_221 : us2.2.2.1 = u.2.2.1 := by rw [hus2]
  have pus2_kept : us2.2.2.2.1 = u.2.2.2.1 := by rw [hus2]
  have pus2_thrown : us2.2.2.2.2.1 = u.2.2.2.2.1 := by rw [hus2]
  have pus2_whole : us2.2.2.2.2.2.1 = u.2.2.2.2.2.1 := by rw [hus2]
  have h_hash : x1 = us2.2.2.2.2.2.2 := by rw [hus2]
  exact W.vret hx hb hr (fun t ht hW => ⟨⟨us2, rfl, (by rw [hus2, ex1]), by rw [ht]; exact hP, va_K.moved hW.alike hK, hD⟩, hS.F ht⟩) hS.2.2 dX3_mix_14
theorem hd_X3_layMatrix : yX3_layMatrix.cls = RX3 ∧ yX3_layMatrix.cls ≠ "java/lang/invoke/MethodHandle" ∧ yX3_layMatrix.cls ≠ "java/lang/invoke/VarHandle" ∧ (parseMethodDescriptor yX3_layMatrix.desc).map (fun d => d.parameters.length) = some 0 := by decide +kernel
set_option maxHeartbeats 4000000 in
set_option maxRecDepth 100000 in
/-- layMatrix() -/
theorem c_X3_layMatrix (l : Launch) (dd : va_G) (cy : Nat → ClassId) (ad : Nat → Nat) (X : va_W) (u : MS) (sz : Nat)  : Met l yX3_layMatrix wsX3_layMatrix ({ frames := 2, cells := 0, slots := 0, locals := 45 }) (va_Pc [.ref (ad 0)] (wrW dd cy (wM cy ad u ++ X) sz)) (va_Qv (fun u9 => frJ [5, 6] u u9 ∧ lmO (u.1 1) 9 (u9.2.2.1 5) (u9.2.2.1 6)) (wB dd cy (fun u9 : MS => wM cy ad u9 ++ X) (va_A (wM cy ad u ++ X) sz)) (va_A (wM cy ad u ++ X) sz)) 0 0 (va_A (wM cy ad u ++ X) sz) := by
  refine Met.ofW (cc := cX3_layMatrix) (maxL := 5) (ret := none) (by decide) rfl ?_
  intro p e s m args below meth c s₁ B hml hv
  obtain ⟨rfl, hsz, hP, hK, hD0⟩ := hv
  have hx := B.exec
  have hb := B.bytes
  have hr := B.returns
  have hts := atoms_spec (ws := wsX3_layMatrix) B.pre
  have hown : s.vm.findClass RX3 = some m.cls := findClass_of_methodNamed B.named
  have hlocks := B.notSynchronized
  subst hsz
  have hD := hD0.self (sz := s.heap.size)
  generalize hAe : va_A (wM cy ad u ++ X) s.heap.size = A at hD ⊢
  have hA : ∀ q : Nat, s.heap.size ≤ q → A q := fun q h => by rw [← hAe]; exact Or.inr h
  have hS : va_S A s.heap s.heap [] := va_S.rf
  have hl := lv_entry ([.ref (ad 0)]) (n := 5) (Nat.le_of_ble_eq_true rfl)
  rw [lg_entry_eq]
  generalize (lg_sl ([.ref (ad 0)]) ++ List.replicate (5 - (lg_sl ([.ref (ad 0)])).length) Slot.unset).toArray = ls at hl ⊢
  have hl : lv_has ls 5 [(0, .ref (ad 0))] := hl
  refine lv_iconst (v := nI 0) hx hb dX3_layMatrix_0 (by decide) ?_
  refine lv_istore_n (lv' := [(1, .int (nI 0)), (0, .ref (ad 0))]) hx hb dX3_layMatrix_1 rfl hl (by decide) rfl (fun ls hl => ?_)
  refine wLoop (σ := Nat × MS) (fun k x H locs ls => k = 81 - x.1 ∧ (x.1 ≤ 81) ∧ (frJ [5, 6] u x.2) ∧ (∀ i9, i9 < x.1 → x.2.2.2.1 5 i9 = 0) ∧ va_P dd vwCl (wM cy ad x.2 ++ X) H ∧ va_D A (wM cy ad x.2 ++ X) ∧ va_S A s.heap H locs ∧ lv_has ls 5 [(1, .int (nI x.1)), (0, .ref (ad 0))]) ?_ _ (0, u) _ _ _ ⟨rfl, (by omega), frJ_rf, (fun i9 h9 => absurd h9 (Nat.not_lt_zero i9)), hP, hD, hS, lv_sub hl [0, 1] rfl⟩
  intro k x H locs ls hI ih
  obtain ⟨j, u1⟩ := x
  obtain ⟨hk, hj, hF, h1, hP, hD, hS, hl⟩ := hI
  have hk : k = 81 - j := hk
  have hj : j ≤ 81 := hj
  have hF : frJ [5, 6] u u1 := hF
  have h1 : ∀ i9, i9 < j → u1.2.2.1 5 i9 = 0 := h1
  have hP : va_P dd vwCl (wM cy ad u1 ++ X) H := hP
  have hD : va_D A (wM cy ad u1 ++ X) := hD
  have hl : lv_has ls 5 [(1, .int (nI j)), (0, .ref (ad 0))] := hl
  refine lv_iload_n hx hb dX3_layMatrix_2 rfl (lv_at hl 0 rfl) ?_
  refine lv_bipush (v := nI 81) hx hb dX3_layMatrix_3 (by decide) ?_
  refine wn_icmp_ge (tgt := 21) hx hb dX3_layMatrix_5 (by decide) (by omega) (by omega) (fun c1 => ?_) (fun c1 => ?_)
  · refine lv_iconst (v := nI 0) hx hb dX3_layMatrix_21 (by decide) ?_
    refine lv_istore_n (lv' := [(1, .int (nI 0)), (0, .ref (ad 0))]) hx hb dX3_layMatrix_22 rfl hl (by decide) rfl (fun ls hl => ?_)
    refine wLoop (σ := Nat × MS) (fun k x H locs ls => k = 9 - x.1 ∧ (x.1 ≤ 9) ∧ (frJ [5, 6] u x.2) ∧ (lmO (u.1 1) x.1 (x.2.2.2.1 5) (x.2.2.2.1 6)) ∧ va_P dd vwCl (wM cy ad x.2 ++ X) H ∧ va_D A (wM cy ad x.2 ++ X) ∧ va_S A s.heap H locs ∧ lv_has ls 5 [(1, .int (nI x.1)), (0, .ref (ad 0))]) ?_ _ (0, u1) _ _ _ ⟨rfl, (by omega), hF, ⟨fun r9 hr9 i9 h9 => by rw [if_neg (Nat.not_lt_zero r9)]; exact h1 _ (by omega), fun r9 h9 => absurd h9 (Nat.not_lt_zero r9)⟩, hP, hD, hS, lv_sub hl [0, 1] rfl⟩
    intro ko x H locs ls hI iho
    obtain ⟨c0, u1⟩ := x
    obtain ⟨hko, hc, hF, h1, hP, hD, hS, hl⟩ := hI
    have hko : ko = 9 - c0 := hko
    have hc : c0 ≤ 9 := hc
    have hF : frJ [5, 6] u u1 := hF
    have h1 : lmO (u.1 1) c0 (u1.2.2.1 5) (u1.2.2.1 6) := h1
    have hP : va_P dd vwCl (wM cy ad u1 ++ X) H := hP
    have hD : va_D A (wM cy ad u1 ++ X) := hD
    have hl : lv_has ls 5 [(1, .int (nI c0)), (0, .ref (ad 0))] := hl
    refine lv_iload_n hx hb dX3_layMatrix_23 rfl (lv_at hl 0 rfl) ?_
    refine lv_bipush (v := nI 9) hx hb dX3_layMatrix_24 (by decide) ?_
    refine wn_icmp_ge (tgt := 156) hx hb dX3_layMatrix_26 (by decide) (by omega) (by omega) (fun c2 => ?_) (fun c2 => ?_)
    · exact W.vret hx hb hr (fun t ht hW => ⟨⟨u1, rfl, ⟨hF, by rw [show c0 = 9 by omega] at h1; exact h1⟩, by rw [ht]; exact hP, va_K.moved hW.alike hK, hD⟩, hS.F ht⟩) hS.2.2 dX3_layMatrix_156
    · refine lv_aload_n hx hb dX3_layMatrix_29 rfl (lv_at hl 1 rfl) ?_
      refine va_get (D := dd) (ci := 5) (v := .ref (ad 6)) (C := RX3) (T := TX3) (N := 15) hx hb hts (fun _ h9 => List.mem_cons_of_mem _ (List.mem_append_left _ (List.mem_append_right _ h9))) hown hK hP 0 (wM_0 cy ad u1 X) rfl 7 (by decide) (hts (Cond.fieldLink RX3 27 "HeadGridModel" "right" "[J") (List.mem_of_getElem? (i := 2) rfl)) (fun _ h9 => h9) rfl dX3_layMatrix_30 ?_
      refine lv_iload_n hx hb dX3_layMatrix_33 rfl (lv_at hl 0 rfl) ?_
      refine lv_aload_n hx hb dX3_layMatrix_34 rfl (lv_at hl 1 rfl) ?_
      refine va_get (D := dd) (ci := 5) (v := .ref (ad 1)) (C := RX3) (T := TX3) (N := 15) hx hb hts (fun _ h9 => List.mem_cons_of_mem _ (List.mem_append_left _ (List.mem_append_right _ h9))) hown hK hP 0 (wM_0 cy ad u1 X) rfl 0 (by decide) (hts (Cond.fieldLink RX3 7 "HeadGridModel" "now" "[I") (List.mem_of_getElem? (i := 3) rfl)) (fun _ h9 => h9) rfl dX3_layMatrix_35 ?_
      refine lv_bipush (v := nI 36) hx hb dX3_layMatrix_38 (by decide) ?_
      refine lv_iload_n hx hb dX3_layMatrix_40 rfl (lv_at hl 0 rfl) ?_
      refine wn_iadd hx hb dX3_layMatrix_41 ?_
      refine wa_iald hx hb hK hP (wM_1 cy ad u1 X) (t0 := 0) rfl (i := 36 + c0) (by omega) (by decide) dX3_layMatrix_42 ?_
      refine lv_aload_n hx hb dX3_layMatrix_43 rfl (lv_at hl 1 rfl) ?_
      refine va_get (D := dd) (ci := 5) (v := .ref (ad 1)) (C := RX3) (T := TX3) (N := 15) hx hb hts (fun _ h9 => List.mem_cons_of_mem _ (List.mem_append_left _ (List.mem_append_right _ h9))) hown hK hP 0 (wM_0 cy ad u1 X) rfl 0 (by decide) (hts (Cond.fieldLink RX3 7 "HeadGridModel" "now" "[I") (List.mem_of_getElem? (i := 3) rfl)) (fun _ h9 => h9) rfl dX3_layMatrix_44 ?_
      refine lv_bipush (v := nI 45) hx hb dX3_layMatrix_47 (by decide) ?_
      refine lv_iload_n hx hb dX3_layMatrix_49 rfl (lv_at hl 0 rfl) ?_
      refine wn_iadd hx hb dX3_layMatrix_50 ?_
      refine wa_iald hx hb hK hP (wM_1 cy ad u1 X) (t0 := 0) rfl (i := 45 + c0) (by omega) (by decide) dX3_layMatrix_51 ?_
      refine lv_isub hx hb dX3_layMatrix_52 ?_
      refine lv_i2l hx hb dX3_layMatrix_53 rfl ?_
      refine lv_topl (fun x3 ex3 => ?_)
      refine wa_last hx hb hK hP hD hS (wM_6 cy ad u1 X) (t0 := 1) rfl (i := c0) (by omega) (by decide) dX3_layMatrix_54 (wM_s6 cy ad u1 X _) (fun H locs hP hD hS => ?_)
      obtain ⟨us4, hus4⟩ : ∃ z9z : MS, z9z = (u1.1, u1.2.1, va_up u1.2.2.1 6 (vp_updL (u1.2.2.1 6) c0 x3), u1.2.2.2) := ⟨_, rfl⟩
      rw [← hus4] at hP hD
      have pus4_s : us4.2.2.1 6 = (vp_updL (u1.2.2.1 6) c0 x3) := by rw [hus4]; rfl
      have pus4_o : ∀ j9, j9 ≠ 6 → us4.2.2.1 j9 = u1.2.2.1 j9 := fun j9 h9 => by rw [hus4]; exact va_up_n h9
      have pus4_1 : us4.1 = u1.1 := by rw [hus4]
      have pus4_21 : us4.2.1 = u1.2.1 := by rw [hus4]
      have pus4_222 : us4.2.2.2 = u1.2.2.2 := by rw [hus4]
      refine lv_iconst (v := nI 0) hx hb dX3_layMatrix_55 (by decide) ?_
      refine lv_istore_n (lv' := [(2, .int (nI 0)), (1, .int (nI c0)), (0, .ref (ad 0))]) hx hb dX3_layMatrix_56 rfl hl (by decide) rfl (fun ls hl => ?_)
      refine wLoop (σ := Nat × MS) (fun k x H locs ls => k = 4 - x.1 ∧ (x.1 ≤ 4) ∧ (frJ [5, 6] u x.2) ∧ (lmI (u.1 1) c0 x.1 (x.2.2.2.1 5) (x.2.2.2.1 6)) ∧ va_P dd vwCl (wM cy ad x.2 ++ X) H ∧ va_D A (wM cy ad x.2 ++ X) ∧ va_S A s.heap H locs ∧ lv_has ls 5 [(2, .int (nI x.1)), (1, .int (nI c0)), (0, .ref (ad 0))]) ?_ _ (0, us4) _ _ _ ⟨rfl, (by omega), (frJ_set hF (by decide) hus4), (by rw [pus4_s, ex3, pus4_o 5 (by decide), hF.1]; exact lmI_start h1 (by omega)), hP, hD, hS, lv_sub hl [0, 1, 2] rfl⟩
      intro ki x H locs ls hI ihi
      obtain ⟨s0, u2⟩ := x
      obtain ⟨hki, hs0, hF, h2, hP, hD, hS, hl⟩ := hI
      have hki : ki = 4 - s0 := hki
      have hs0 : s0 ≤ 4 := hs0
      have hF : frJ [5, 6] u u2 := hF
      have h2 : lmI (u.1 1) c0 s0 (u2.2.2.1 5) (u2.2.2.1 6) := h2
      have hP : va_P dd vwCl (wM cy ad u2 ++ X) H := hP
      have hD : va_D A (wM cy ad u2 ++ X) := hD
      have hl : lv_has ls 5 [(2, .int (nI s0)), (1, .int (nI c0)), (0, .ref (ad 0))] := hl
      refine lv_iload_n hx hb dX3_layMatrix_57 rfl (lv_at hl 0 rfl) ?_
      refine lv_iconst (v := nI 4) hx hb dX3_layMatrix_58 (by decide) ?_
      refine wn_icmp_ge (tgt := 150) hx hb dX3_layMatrix_59 (by decide) (by omega) (by omega) (fun c5 => ?_) (fun c5 => ?_)
      · refine lv_iinc (v := (nI (c0 + 1))) (lv' := [(1, .int (nI (c0 + 1))), (2, .int (nI s0)), (0, .ref (ad 0))]) hx hb dX3_layMatrix_150 hl (k := 1) rfl (nI_1 _) (by decide) rfl (fun ls hl => ?_)
        refine lv_goto (tgt := 23) hx hb dX3_layMatrix_153 (by decide) ?_
        exact iho (9 - (c0 + 1)) (c0 + 1, u2) _ _ ls (by omega) ⟨rfl, (by omega), hF, (lmI_next (by rw [show s0 = 4 by omega] at h2; exact h2)), hP, hD, hS, lv_sub hl [0, 2] rfl⟩
      · refine lv_aload_n hx hb dX3_layMatrix_62 rfl (lv_at hl 2 rfl) ?_
        refine lv_iload_n hx hb dX3_layMatrix_63 rfl (lv_at hl 1 rfl) ?_
        refine lv_iload_n hx hb dX3_layMatrix_64 rfl (lv_at hl 0 rfl) ?_
        refine vp_callSi (va_runV (As := [.int (nI c0), .int (nI s0)]) (rest := []) ⟨hx, hb, hml, hown, hts⟩ (c_X3_conductanceOf l dd cy ad X u2 c0 s0 (by omega) (by omega)) (cwV 2 hts gX3_layMatrix_X3_conductanceOf rfl rfl rfl hd_X3_conductanceOf ⟨Nat.le_of_ble_eq_true rfl, Nat.le_of_ble_eq_true rfl⟩) (rdW_V hP hK (wM_0 cy ad u2 X) rfl) rfl rfl hl.1 rfl (lv_room (Nat.le_of_ble_eq_true rfl)) dX3_layMatrix_65 ⟨Nat.le_of_ble_eq_true rfl, Nat.le_of_ble_eq_true rfl⟩).run (fun r6 hr6 => ?_)
        have hr6 : r6 = (u2.1 1 (lk c0 s0)) := hr6
        subst hr6
        refine lv_topi (fun x7 ex7 => ?_)
        refine lv_istore_n (lv' := [(3, .int x7), (2, .int (nI s0)), (1, .int (nI c0)), (0, .ref (ad 0))]) hx hb dX3_layMatrix_68 rfl hl (by decide) rfl (fun ls hl => ?_)
        refine lv_iload_n hx hb dX3_layMatrix_69 rfl (lv_at hl 2 rfl) ?_
        refine lv_iload_n hx hb dX3_layMatrix_70 rfl (lv_at hl 1 rfl) ?_
        refine vp_callSi (va_runS (As := [.int (nI c0), .int (nI s0)]) (rest := []) ⟨hx, hb, hml, hown, hts⟩ (c_X3_otherOf l c0 s0 (by omega) (by omega)) (va_cwS 2 hts gX3_layMatrix_X3_otherOf rfl rfl rfl hd_X3_otherOf ⟨Nat.le_of_ble_eq_true rfl, Nat.le_of_ble_eq_true rfl⟩) ⟨fun a U g mk q => q, fun U hU hW => ⟨rfl, trivial⟩⟩ rfl rfl hl.1 rfl (lv_room (Nat.le_of_ble_eq_true rfl)) dX3_layMatrix_71 ⟨Nat.le_of_ble_eq_true rfl, Nat.le_of_ble_eq_true rfl⟩).run (fun r8 hr8 => ?_)
        have hr8 : r8 = (nI (ot c0 s0)) := hr8
        subst hr8
        have ho9 := ot_lt (c := c0) (s := s0) (by omega) (by omega)
        refine lv_istore (lv' := [(4, .int (nI (ot c0 s0))), (3, .int x7), (2, .int (nI s0)), (1, .int (nI c0)), (0, .ref (ad 0))]) hx hb dX3_layMatrix_74 hl (by decide) rfl (fun ls hl => ?_)
        refine lv_aload_n hx hb dX3_layMatrix_76 rfl (lv_at hl 4 rfl) ?_
        refine va_get (D := dd) (ci := 5) (v := .ref (ad 5)) (C := RX3) (T := TX3) (N := 15) hx hb hts (fun _ h9 => List.mem_cons_of_mem _ (List.mem_append_left _ (List.mem_append_right _ h9))) hown hK hP 0 (wM_0 cy ad u2 X) rfl 6 (by decide) (hts (Cond.fieldLink RX3 23 "HeadGridModel" "matrix" "[J") (List.mem_of_getElem? (i := 1) rfl)) (fun _ h9 => h9) rfl dX3_layMatrix_77 ?_
        refine lv_bipush (v := nI 9) hx hb dX3_layMatrix_80 (by decide) ?_
        refine lv_iload_n hx hb dX3_layMatrix_82 rfl (lv_at hl 3 rfl) ?_
        refine wn_imul hx hb dX3_layMatrix_83 ?_
        refine lv_iload_n hx hb dX3_layMatrix_84 rfl (lv_at hl 3 rfl) ?_
        refine wn_iadd hx hb dX3_layMatrix_85 ?_
        refine lv_dup2_11 hx hb dX3_layMatrix_86 rfl rfl ?_
        refine wa_lald hx hb hK hP (wM_5 cy ad u2 X) (t0 := 1) rfl (i := (9 * c0) + c0) (by omega) (by decide) dX3_layMatrix_87 ?_
        refine lv_iload_n hx hb dX3_layMatrix_88 rfl (lv_at hl 1 rfl) ?_
        refine lv_i2l hx hb dX3_layMatrix_89 rfl ?_
        refine lv_ladd hx hb dX3_layMatrix_90 ?_
        refine lv_topl (fun x10 ex10 => ?_)
        refine wa_last hx hb hK hP hD hS (wM_5 cy ad u2 X) (t0 := 1) rfl (i := (9 * c0) + c0) (by omega) (by decide) dX3_layMatrix_91 (wM_s5 cy ad u2 X _) (fun H locs hP hD hS => ?_)
        obtain ⟨us11, hus11⟩ : ∃ z9z : MS, z9z = (u2.1, u2.2.1, va_up u2.2.2.1 5 (vp_updL (u2.2.2.1 5) ((9 * c0) + c0) x10), u2.2.2.2) := ⟨_, rfl⟩
        rw [← hus11] at hP hD
        have pus11_s : us11.2.2.1 5 = (vp_updL (u2.2.2.1 5) ((9 * c0) + c0) x10) := by rw [hus11]; rfl
        have pus11_o : ∀ j9, j9 ≠ 5 → us11.2.2.1 j9 = u2.2.2.1 j9 := fun j9 h9 => by rw [hus11]; exact va_up_n h9
        have pus11_1 : us11.1 = u2.1 := by rw [hus11]
        have pus11_21 : us11.2.1 = u2.2.1 := by rw [hus11]
        have pus11_222 : us11.2.2.2 = u2.2.2.2 := by rw [hus11]
        refine lv_iload hx hb dX3_layMatrix_92 (lv_at hl 0 rfl) ?_
        refine lv_bipush (v := nI 9) hx hb dX3_layMatrix_94 (by decide) ?_
        refine wn_icmp_ge (tgt := 119) hx hb dX3_layMatrix_96 (by decide) (by omega) (by omega) (fun cO => ?_) (fun cO => ?_)
        · refine lv_aload_n hx hb dX3_layMatrix_119 rfl (lv_at hl 4 rfl) ?_
          refine va_get (D := dd) (ci := 5) (v := .ref (ad 6)) (C := RX3) (T := TX3) (N := 15) hx hb hts (fun _ h9 => List.mem_cons_of_mem _ (List.mem_append_left _ (List.mem_append_right _ h9))) hown hK hP 0 (wM_0 cy ad us11 X) rfl 7 (by decide) (hts (Cond.fieldLink RX3 27 "HeadGridModel" "right" "[J") (List.mem_of_getElem? (i := 2) rfl)) (fun _ h9 => h9) rfl dX3_layMatrix_120 ?_
          refine lv_iload_n hx hb dX3_layMatrix_123 rfl (lv_at hl 3 rfl) ?_
          refine lv_dup2_11 hx hb dX3_layMatrix_124 rfl rfl ?_
          refine wa_lald hx hb hK hP (wM_6 cy ad us11 X) (t0 := 1) rfl (i := c0) (by omega) (by decide) dX3_layMatrix_125 ?_
          refine lv_iload_n hx hb dX3_layMatrix_126 rfl (lv_at hl 1 rfl) ?_
          refine lv_aload_n hx hb dX3_layMatrix_127 rfl (lv_at hl 4 rfl) ?_
          refine va_get (D := dd) (ci := 5) (v := .ref (ad 1)) (C := RX3) (T := TX3) (N := 15) hx hb hts (fun _ h9 => List.mem_cons_of_mem _ (List.mem_append_left _ (List.mem_append_right _ h9))) hown hK hP 0 (wM_0 cy ad us11 X) rfl 0 (by decide) (hts (Cond.fieldLink RX3 7 "HeadGridModel" "now" "[I") (List.mem_of_getElem? (i := 3) rfl)) (fun _ h9 => h9) rfl dX3_layMatrix_128 ?_
          refine lv_bipush (v := nI 24) hx hb dX3_layMatrix_131 (by decide) ?_
          refine lv_iload hx hb dX3_layMatrix_133 (lv_at hl 0 rfl) ?_
          refine wn_iadd hx hb dX3_layMatrix_135 ?_
          refine lv_bipush (v := nI 9) hx hb dX3_layMatrix_136 (by decide) ?_
          refine wn_isub hx hb dX3_layMatrix_138 (by omega) ?_
          refine wa_iald hx hb hK hP (wM_1 cy ad us11 X) (t0 := 0) rfl (i := (24 + (ot c0 s0)) - 9) (by omega) (by decide) dX3_layMatrix_139 ?_
          refine lv_imul hx hb dX3_layMatrix_140 ?_
          refine lv_i2l hx hb dX3_layMatrix_141 rfl ?_
          refine lv_ladd hx hb dX3_layMatrix_142 ?_
          refine lv_topl (fun x12 ex12 => ?_)
          refine wa_last hx hb hK hP hD hS (wM_6 cy ad us11 X) (t0 := 1) rfl (i := c0) (by omega) (by decide) dX3_layMatrix_143 (wM_s6 cy ad us11 X _) (fun H locs hP hD hS => ?_)
          obtain ⟨us13, hus13⟩ : ∃ z9z : MS, z9z = (us11.1, us11.2.1, va_up us11.2.2.1 6 (vp_updL (us11.2.2.1 6) c0 x12), us11.2.2.2) := ⟨_, rfl⟩
          rw [← hus13] at hP hD
          have pus13_s : us13.2.2.1 6 = (vp_updL (us11.2.2.1 6) c0 x12) := by rw [hus13]; rfl
          have pus13_o : ∀ j9, j9 ≠ 6 → us13.2.2.1 j9 = us11.2.2.1 j9 := fun j9 h9 => by rw [hus13]; exact va_up_n h9
          have pus13_1 : us13.1 = us11.1 := by rw [hus13]
          have pus13_21 : us13.2.1 = us11.2.1 := by rw [hus13]
          have pus13_222 : us13.2.2.2 = us11.2.2.2 := by rw [hus13]
          refine lv_iinc (v := (nI (s0 + 1))) (lv' := [(2, .int (nI (s0 + 1))), (4, .int (nI (ot c0 s0))), (3, .int x7), (1, .int (nI c0)), (0, .ref (ad 0))]) hx hb dX3_layMatrix_144 hl (k := 2) rfl (nI_1 _) (by decide) rfl (fun ls hl => ?_)
          refine lv_goto (tgt := 57) hx hb dX3_layMatrix_147 (by decide) ?_
          exact ihi (4 - (s0 + 1)) (s0 + 1, us13) _ _ ls (by omega) ⟨rfl, (by omega), (frJ_set (frJ_set hF (by decide) hus11) (by decide) hus13), (by rw [pus13_s, ex12, pus11_1, pus11_o 6 (by decide), pus13_o 5 (by decide), pus11_s, ex10, ex7, hF.1]; exact lmI_edge h2 (by omega) (by omega)), hP, hD, hS, lv_sub hl [0, 3, 4] rfl⟩
        · refine lv_aload_n hx hb dX3_layMatrix_99 rfl (lv_at hl 4 rfl) ?_
          refine va_get (D := dd) (ci := 5) (v := .ref (ad 5)) (C := RX3) (T := TX3) (N := 15) hx hb hts (fun _ h9 => List.mem_cons_of_mem _ (List.mem_append_left _ (List.mem_append_right _ h9))) hown hK hP 0 (wM_0 cy ad us11 X) rfl 6 (by decide) (hts (Cond.fieldLink RX3 23 "HeadGridModel" "matrix" "[J") (List.mem_of_getElem? (i := 1) rfl)) (fun _ h9 => h9) rfl dX3_layMatrix_100 ?_
          refine lv_bipush (v := nI 9) hx hb dX3_layMatrix_103 (by decide) ?_
          refine lv_iload_n hx hb dX3_layMatrix_105 rfl (lv_at hl 3 rfl) ?_
          refine wn_imul hx hb dX3_layMatrix_106 ?_
          refine lv_iload hx hb dX3_layMatrix_107 (lv_at hl 0 rfl) ?_
          refine wn_iadd hx hb dX3_layMatrix_109 ?_
          refine lv_dup2_11 hx hb dX3_layMatrix_110 rfl rfl ?_
          refine wa_lald hx hb hK hP (wM_5 cy ad us11 X) (t0 := 1) rfl (i := (9 * c0) + (ot c0 s0)) (by omega) (by decide) dX3_layMatrix_111 ?_
          refine lv_iload_n hx hb dX3_layMatrix_112 rfl (lv_at hl 1 rfl) ?_
          refine lv_i2l hx hb dX3_layMatrix_113 rfl ?_
          refine lv_lsub hx hb dX3_layMatrix_114 ?_
          refine lv_topl (fun x14 ex14 => ?_)
          refine wa_last hx hb hK hP hD hS (wM_5 cy ad us11 X) (t0 := 1) rfl (i := (9 * c0) + (ot c0 s0)) (by omega) (by decide) dX3_layMatrix_115 (wM_s5 cy ad us11 X _) (fun H locs hP hD hS => ?_)
          obtain ⟨us15, hus15⟩ : ∃ z9z : MS, z9z = (us11.1, us11.2.1, va_up us11.2.2.1 5 (vp_updL (us11.2.2.1 5) ((9 * c0) + (ot c0 s0)) x14), us11.2.2.2) := ⟨_, rfl⟩
          rw [← hus15] at hP hD
          have pus15_s : us15.2.2.1 5 = (vp_updL (us11.2.2.1 5) ((9 * c0) + (ot c0 s0)) x14) := by rw [hus15]; rfl
          have pus15_o : ∀ j9, j9 ≠ 5 → us15.2.2.1 j9 = us11.2.2.1 j9 := fun j9 h9 => by rw [hus15]; exact va_up_n h9
          have pus15_1 : us15.1 = us11.1 := by rw [hus15]
          have pus15_21 : us15.2.1 = us11.2.1 := by rw [hus15]
          have pus15_222 : us15.2.2.2 = us11.2.2.2 := by rw [hus15]
          refine lv_goto (tgt := 144) hx hb dX3_layMatrix_116 (by decide) ?_
          refine lv_iinc (v := (nI (s0 + 1))) (lv' := [(2, .int (nI (s0 + 1))), (4, .int (nI (ot c0 s0))), (3, .int x7), (1, .int (nI c0)), (0, .ref (ad 0))]) hx hb dX3_layMatrix_144 hl (k := 2) rfl (nI_1 _) (by decide) rfl (fun ls hl => ?_)
          refine lv_goto (tgt := 57) hx hb dX3_layMatrix_147 (by decide) ?_
          exact ihi (4 - (s0 + 1)) (s0 + 1, us15) _ _ ls (by omega) ⟨rfl, (by omega), (frJ_set (frJ_set hF (by decide) hus11) (by decide) hus15), (by rw [pus15_s, ex14, pus15_o 6 (by decide), pus11_o 6 (by decide), pus11_s, ex10, ex7, hF.1]; exact lmI_cell h2 (by omega) (by omega)), hP, hD, hS, lv_sub hl [0, 3, 4] rfl⟩
  · refine lv_aload_n hx hb dX3_layMatrix_8 rfl (lv_at hl 1 rfl) ?_
    refine va_get (D := dd) (ci := 5) (v := .ref (ad 5)) (C := RX3) (T := TX3) (N := 15) hx hb hts (fun _ h9 => List.mem_cons_of_mem _ (List.mem_append_left _ (List.mem_append_right _ h9))) hown hK hP 0 (wM_0 cy ad u1 X) rfl 6 (by decide) (hts (Cond.fieldLink RX3 23 "HeadGridModel" "matrix" "[J") (List.mem_of_getElem? (i := 1) rfl)) (fun _ h9 => h9) rfl dX3_layMatrix_9 ?_
    refine lv_iload_n hx hb dX3_layMatrix_12 rfl (lv_at hl 0 rfl) ?_
    refine lv_lconst (v := 0) hx hb dX3_layMatrix_13 rfl ?_
    refine wa_last hx hb hK hP hD hS (wM_5 cy ad u1 X) (t0 := 1) rfl (i := j) (by omega) (by decide) dX3_layMatrix_14 (wM_s5 cy ad u1 X _) (fun H locs hP hD hS => ?_)
    obtain ⟨us16, hus16⟩ : ∃ z9z : MS, z9z = (u1.1, u1.2.1, va_up u1.2.2.1 5 (vp_updL (u1.2.2.1 5) j 0), u1.2.2.2) := ⟨_, rfl⟩
    rw [← hus16] at hP hD
    have pus16_s : us16.2.2.1 5 = (vp_updL (u1.2.2.1 5) j 0) := by rw [hus16]; rfl
    have pus16_o : ∀ j9, j9 ≠ 5 → us16.2.2.1 j9 = u1.2.2.1 j9 := fun j9 h9 => by rw [hus16]; exact va_up_n h9
    have pus16_1 : us16.1 = u1.1 := by rw [hus16]
    have pus16_21 : us16.2.1 = u1.2.1 := by rw [hus16]
    have pus16_222 : us16.2.2.2 = u1.2.2.2 := by rw [hus16]
    refine lv_iinc (v := (nI (j + 1))) (lv' := [(1, .int (nI (j + 1))), (0, .ref (ad 0))]) hx hb dX3_layMatrix_15 hl (k := 0) rfl (nI_1 _) (by decide) rfl (fun ls hl => ?_)
    refine lv_goto (tgt := 2) hx hb dX3_layMatrix_18 (by decide) ?_
    exact ih (81 - (j + 1)) (j + 1, us16) _ _ ls (by omega) ⟨rfl, (by omega), (frJ_set hF (by decide) hus16), (fun i9 h9 => by rw [pus16_s]; unfold vp_updL; split <;> first | rfl | exact h1 i9 (by omega)), hP, hD, hS, lv_sub hl [0, 1] rfl⟩

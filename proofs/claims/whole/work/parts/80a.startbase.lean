/-! the law's start: what the tables and the premises give -/
theorem lw_ao {args : Array Value} {s : State} {ty : FieldType} (h : (Cond.arrayOver (.array ty)).before args s = true) : ∃ (c : ClassId) (k : Class) (comp : ClassId), s.vm.findClass ("[" ++ (FieldType.array ty).toString) = some c ∧ s.vm.classes[c]? = some k ∧ k.kind = .array comp (.array ty) := by
  have h' := h
  unfold Cond.before Cond.holds at h'
  simp only [Cond.value] at h'
  rw [beq_iff_eq] at h'
  obtain ⟨comp, h1, h2⟩ := Option.bind_eq_some_iff.mp h'
  obtain ⟨c, h3, h4⟩ := Option.bind_eq_some_iff.mp h2
  obtain ⟨k, h5, h6⟩ := Option.map_eq_some_iff.mp h4
  cases hk : k.kind with
  | array cm t =>
    rw [hk] at h6
    have h7 := (Bool.and_eq_true _ _).mp h6
    have e1 : t = .array ty := of_decide_eq_true h7.1
    have e2 := of_decide_eq_true h7.2
    exact ⟨c, k, cm, e2, h5, by rw [hk, e1]⟩
  | _ => rw [hk] at h6; cases h6
theorem ex6 {P0 P1 P2 P3 P4 P5 : ClassId → (Nat → Nat) → Prop} (h0 : ∃ c i, P0 c i) (h1 : ∃ c i, P1 c i) (h2 : ∃ c i, P2 c i) (h3 : ∃ c i, P3 c i) (h4 : ∃ c i, P4 c i) (h5 : ∃ c i, P5 c i) : ∃ dd : (Nat → ClassId) × (Nat → Nat → Nat), P0 (dd.1 0) (dd.2 0) ∧ P1 (dd.1 1) (dd.2 1) ∧ P2 (dd.1 2) (dd.2 2) ∧ P3 (dd.1 3) (dd.2 3) ∧ P4 (dd.1 4) (dd.2 4) ∧ P5 (dd.1 5) (dd.2 5) := by
  obtain ⟨c0, i0, h0⟩ := h0
  obtain ⟨c1, i1, h1⟩ := h1
  obtain ⟨c2, i2, h2⟩ := h2
  obtain ⟨c3, i3, h3⟩ := h3
  obtain ⟨c4, i4, h4⟩ := h4
  obtain ⟨c5, i5, h5⟩ := h5
  exact ⟨(fun k => match k with | 0 => c0 | 1 => c1 | 2 => c2 | 3 => c3 | 4 => c4 | _ => c5, fun k => match k with | 0 => i0 | 1 => i1 | 2 => i2 | 3 => i3 | 4 => i4 | _ => i5), h0, h1, h2, h3, h4, h5⟩
theorem ex5 {P0 P1 P2 P3 P4 : ClassId → Prop} (h0 : ∃ c, P0 c) (h1 : ∃ c, P1 c) (h2 : ∃ c, P2 c) (h3 : ∃ c, P3 c) (h4 : ∃ c, P4 c) : ∃ cy : Nat → ClassId, P0 (cy 0) ∧ P1 (cy 1) ∧ P2 (cy 2) ∧ P3 (cy 3) ∧ P4 (cy 4) := by
  obtain ⟨c0, h0⟩ := h0
  obtain ⟨c1, h1⟩ := h1
  obtain ⟨c2, h2⟩ := h2
  obtain ⟨c3, h3⟩ := h3
  obtain ⟨c4, h4⟩ := h4
  exact ⟨fun k => match k with | 0 => c0 | 1 => c1 | 2 => c2 | 3 => c3 | _ => c4, h0, h1, h2, h3, h4⟩
set_option maxRecDepth 20000 in
theorem inJ0 : ∀ w ∈ wsJ00, w ∈ lw_tbl := lw_pl _ [334, 336] (by decide +kernel)
set_option maxRecDepth 20000 in
theorem inJx00060 : ∀ w ∈ wsJx000600, w ∈ lw_tbl := lw_pl _ [300, 302, 304, 306, 308, 310] (by decide +kernel)
set_option maxRecDepth 20000 in
theorem lw_K {args : Array Value} {s : State} (hts0 : ∀ w ∈ lw_tbl, w.before args s = true) : ∃ (dd : va_G) (cy : Nat → ClassId), va_K dd vwCl (tysW cy) s ∧ va_AO RX1 s ∧ va_AOA .long s := by
  obtain ⟨dd, k0, k1, k2, k3, k4, k5⟩ := ex6 (u_known (C := RJ0) (T := TJ0) (N := 2) (n := 4) hts0 inJ0 (hts0 (Cond.instantiable RJ0 4) (List.mem_of_getElem? (i := 332) (by decide +kernel)))) (u_known (C := RJx00060) (T := TJx00060) (N := 6) (n := 6) hts0 inJx00060 (hts0 (Cond.instantiable RJx00060 6) (List.mem_of_getElem? (i := 261) (by decide +kernel)))) (u_known (C := RX0) (T := TX0) (N := 4) (n := 4) hts0 inX0 (hts0 (Cond.instantiable RX0 4) (List.mem_of_getElem? (i := 122) (by decide +kernel)))) (u_known (C := RX1) (T := TX1) (N := 7) (n := 7) hts0 inX1 (hts0 (Cond.instantiable RX1 7) (List.mem_of_getElem? (i := 77) (by decide +kernel)))) (u_known (C := RX2) (T := TX2) (N := 7) (n := 7) hts0 inX2 (hts0 (Cond.instantiable RX2 7) (List.mem_of_getElem? (i := 69) (by decide +kernel)))) (u_known (C := RX3) (T := TX3) (N := 15) (n := 15) hts0 inX3 (hts0 (Cond.instantiable RX3 15) (List.mem_of_getElem? (i := 668) (by decide +kernel))))
  have hO1 := (hts0 (Cond.arrayOver (.object "HeadGrid$State")) (List.mem_of_getElem? (i := 120) (by decide +kernel)))
  have hO2 := (hts0 (Cond.arrayOver (.array .long)) (List.mem_of_getElem? (i := 128) (by decide +kernel)))
  have a_int : ∃ c, ArrOfT s c .int ∧ va_RA s c .int := by
    obtain ⟨c, k, comp, h1, h2, h3⟩ := Cond.arrayClass_spec (hts0 (Cond.arrayClass .int) (List.mem_of_getElem? (i := 118) (by decide +kernel)))
    exact ⟨c, fun n z => ⟨fun _ h => (by cases h), k, h2, comp, h3⟩, h1⟩
  have a_long : ∃ c, ArrOfT s c .long ∧ va_RA s c .long := by
    obtain ⟨c, k, comp, h1, h2, h3⟩ := Cond.arrayClass_spec (hts0 (Cond.arrayClass .long) (List.mem_of_getElem? (i := 144) (by decide +kernel)))
    exact ⟨c, fun n z => ⟨fun _ h => (by cases h), k, h2, comp, h3⟩, h1⟩
  have a_double : ∃ c, ArrOfT s c .double ∧ va_RA s c .double := by
    obtain ⟨c, k, comp, h1, h2, h3⟩ := Cond.arrayClass_spec (hts0 (Cond.arrayClass .double) (List.mem_of_getElem? (i := 119) (by decide +kernel)))
    exact ⟨c, fun n z => ⟨fun _ h => (by cases h), k, h2, comp, h3⟩, h1⟩
  have a_q : ∃ c, ArrOfT s c (.object "HeadGrid$State") ∧ va_RA s c (.object "HeadGrid$State") := by
    obtain ⟨comp, c, k, h1, _, h3, h4, h5⟩ := Cond.arrayOver_spec hO1
    exact ⟨c, fun n z => ⟨fun _ h => (by cases h), k, h3, comp, h4⟩, k, comp, h3, h4, h1, h5⟩
  have a_r : ∃ c, ArrOfT s c (.array .long) ∧ va_RA s c (.array .long) := by
    obtain ⟨c, k, comp, h1, h2, h3⟩ := lw_ao hO2
    exact ⟨c, fun n z => ⟨fun _ h => (by cases h), k, h2, comp, h3⟩, h1⟩
  obtain ⟨cy, c0, c1, c2, c3, c4⟩ := ex5 a_int a_long a_double a_q a_r
  refine ⟨dd, cy, ⟨fun k q hq => ?_, fun k q hq => ?_⟩, va_AO.of hO1, va_AOA.of hO2⟩
  · match k, hq with
    | 0, hq => cases hq; exact k0
    | 1, hq => cases hq; exact k1
    | 2, hq => cases hq; exact k2
    | 3, hq => cases hq; exact k3
    | 4, hq => cases hq; exact k4
    | 5, hq => cases hq; exact k5
    | k + 6, hq => simp [vwCl] at hq
  · match k, hq with
    | 0, hq => cases hq; exact c0
    | 1, hq => cases hq; exact c1
    | 2, hq => cases hq; exact c2
    | 3, hq => cases hq; exact c3
    | 4, hq => cases hq; exact c4
    | k + 5, hq => simp [tysW] at hq
theorem lw_feM : ∀ j, j < 24 → Cond.eq (.elem (.static "HeadGrid" "FIRST_ENDS" "[I") (.int (Int32.ofNat j))) (.int (nI (fe j))) ∈ flatC (Jvm.Cond.and given_1 narrow_1) := by decide +kernel
theorem lw_seM : ∀ j, j < 24 → Cond.eq (.elem (.static "HeadGrid" "SECOND_ENDS" "[I") (.int (Int32.ofNat j))) (.int (nI (se j))) ∈ flatC (Jvm.Cond.and given_1 narrow_1) := by decide +kernel
theorem lw_feA : Cond.arrayOf (.static "HeadGrid" "FIRST_ENDS" "[I") .int ∈ flatC (Jvm.Cond.and given_1 narrow_1) := by decide +kernel
theorem lw_feL : Cond.eq (.length (.static "HeadGrid" "FIRST_ENDS" "[I")) (.int (Int32.ofNat 24)) ∈ flatC (Jvm.Cond.and given_1 narrow_1) := by decide +kernel
theorem lw_seA : Cond.arrayOf (.static "HeadGrid" "SECOND_ENDS" "[I") .int ∈ flatC (Jvm.Cond.and given_1 narrow_1) := by decide +kernel
theorem lw_seL : Cond.eq (.length (.static "HeadGrid" "SECOND_ENDS" "[I")) (.int (Int32.ofNat 24)) ∈ flatC (Jvm.Cond.and given_1 narrow_1) := by decide +kernel
theorem lw_usM : Cond.isRef (.static Bundle.tN "UNASSIGNED_STACK" Bundle.steD) ∈ flatC (Jvm.Cond.and given_1 narrow_1) := by decide +kernel
theorem lw_ssM : Cond.isRef (.static Bundle.tN "SUPPRESSED_SENTINEL" Bundle.listD) ∈ flatC (Jvm.Cond.and given_1 narrow_1) := by decide +kernel
theorem lw_x174 : Cond.exactly (.string "HeadGrid" 174) "java/lang/String" ∈ flatC (Jvm.Cond.and given_1 narrow_1) := by decide +kernel
theorem lw_x179 : Cond.exactly (.string "HeadGrid" 179) "java/lang/String" ∈ flatC (Jvm.Cond.and given_1 narrow_1) := by decide +kernel
theorem lw_x181 : Cond.exactly (.string "HeadGrid" 181) "java/lang/String" ∈ flatC (Jvm.Cond.and given_1 narrow_1) := by decide +kernel
theorem lw_x183 : Cond.exactly (.string "HeadGrid" 183) "java/lang/String" ∈ flatC (Jvm.Cond.and given_1 narrow_1) := by decide +kernel
theorem lw_x187 : Cond.exactly (.string "HeadGrid" 187) "java/lang/String" ∈ flatC (Jvm.Cond.and given_1 narrow_1) := by decide +kernel
theorem lw_x190 : Cond.exactly (.string "HeadGrid" 190) "java/lang/String" ∈ flatC (Jvm.Cond.and given_1 narrow_1) := by decide +kernel
theorem lw_x192 : Cond.exactly (.string "HeadGrid" 192) "java/lang/String" ∈ flatC (Jvm.Cond.and given_1 narrow_1) := by decide +kernel
theorem lw_x194 : Cond.exactly (.string "HeadGrid" 194) "java/lang/String" ∈ flatC (Jvm.Cond.and given_1 narrow_1) := by decide +kernel
theorem lw_x198 : Cond.exactly (.string "HeadGrid" 198) "java/lang/String" ∈ flatC (Jvm.Cond.and given_1 narrow_1) := by decide +kernel
theorem lw_x203 : Cond.exactly (.string "HeadGrid" 203) "java/lang/String" ∈ flatC (Jvm.Cond.and given_1 narrow_1) := by decide +kernel
theorem lw_nIAIO : Cond.not (.castable xIA xIO) ∈ flatC (Jvm.Cond.and given_1 narrow_1) := by decide +kernel
theorem lw_nAEIO : Cond.not (.castable xAE xIO) ∈ flatC (Jvm.Cond.and given_1 narrow_1) := by decide +kernel
theorem lw_nAEIA : Cond.not (.castable xAE xIA) ∈ flatC (Jvm.Cond.and given_1 narrow_1) := by decide +kernel
theorem lw_Nc {args : Array Value} {s : State} (hgv : (Jvm.Cond.and given_1 narrow_1).before args s = true) : ncL s := ⟨va_Nc.of (flat_of_before _ hgv _ lw_nIAIO), va_Nc.of (flat_of_before _ hgv _ lw_nAEIO), va_Nc.of (flat_of_before _ hgv _ lw_nAEIA)⟩
set_option maxRecDepth 20000 in
theorem lw_St {args : Array Value} {s : State} (hts0 : ∀ w ∈ lw_tbl, w.before args s = true) (hgv : (Jvm.Cond.and given_1 narrow_1).before args s = true) : ∃ tt : Nat × Nat, stC tt (lA s) s s.heap := by
  have hg := flat_of_before _ hgv
  have hA : ∀ a : Nat, a < s.heap.size → ¬ lA s a := fun a h => Nat.not_le.mpr h
  obtain ⟨t1, e1, T1⟩ := va_Tof (A := lA s) (N := 24) (f := fun j => .int (nI (fe j))) (by decide) (hg _ lw_feA) (va_eqt (hg _ lw_feL)) (fun j hj => va_eqt (hg _ (lw_feM j hj))) hA
  obtain ⟨t2, e2, T2⟩ := va_Tof (A := lA s) (N := 24) (f := fun j => .int (nI (se j))) (by decide) (hg _ lw_seA) (va_eqt (hg _ lw_seL)) (fun j hj => va_eqt (hg _ (lw_seM j hj))) hA
  exact ⟨(t1, t2), ⟨va_Zof (hts0 (Cond.laysStatic RX2 "FIRST_ENDS" "[I") (List.mem_of_getElem? (i := 195) (by decide +kernel))) (hts0 (Cond.initialized RX2) (List.mem_of_getElem? (i := 52) (by decide +kernel))) e1 hA, T1⟩, ⟨va_Zof (hts0 (Cond.laysStatic RX2 "SECOND_ENDS" "[I") (List.mem_of_getElem? (i := 197) (by decide +kernel))) (hts0 (Cond.initialized RX2) (List.mem_of_getElem? (i := 52) (by decide +kernel))) e2 hA, T2⟩, va_Nw.of rfl (hts0 (Cond.fieldLinkNest RX0 60 "HeadGrid" "FIRST_ENDS" "[I" "HeadGrid") (List.mem_of_getElem? (i := 194) (by decide +kernel))), va_Nw.of rfl (hts0 (Cond.fieldLinkNest RX0 63 "HeadGrid" "SECOND_ENDS" "[I" "HeadGrid") (List.mem_of_getElem? (i := 196) (by decide +kernel)))⟩
set_option maxRecDepth 20000 in
theorem lw_Ex {args : Array Value} {s : State} (hts0 : ∀ w ∈ lw_tbl, w.before args s = true) (hgv : (Jvm.Cond.and given_1 narrow_1).before args s = true) : ∃ N : Nat → Nat, exC N (lA s) s s.heap := by
  have hg := flat_of_before _ hgv
  have hA : ∀ a : Nat, a < s.heap.size → ¬ lA s a := fun a h => Nat.not_le.mpr h
  obtain ⟨n0, _, _, _, x0, _⟩ := Cond.exactly_spec (hg _ lw_x174)
  obtain ⟨n1, _, _, _, x1, _⟩ := Cond.exactly_spec (hg _ lw_x179)
  obtain ⟨n2, _, _, _, x2, _⟩ := Cond.exactly_spec (hg _ lw_x181)
  obtain ⟨n3, _, _, _, x3, _⟩ := Cond.exactly_spec (hg _ lw_x183)
  obtain ⟨n4, _, _, _, x4, _⟩ := Cond.exactly_spec (hg _ lw_x187)
  obtain ⟨n5, _, _, _, x5, _⟩ := Cond.exactly_spec (hg _ lw_x190)
  obtain ⟨n6, _, _, _, x6, _⟩ := Cond.exactly_spec (hg _ lw_x192)
  obtain ⟨n7, _, _, _, x7, _⟩ := Cond.exactly_spec (hg _ lw_x194)
  obtain ⟨n8, _, _, _, x8, _⟩ := Cond.exactly_spec (hg _ lw_x198)
  obtain ⟨n9, _, _, _, x9, _⟩ := Cond.exactly_spec (hg _ lw_x203)
  refine ⟨fun k => [n0, n1, n2, n3, n4, n5, n6, n7, n8, n9].getD k 0, vx_Zqof (hts0 (.laysStatic Bundle.tN "UNASSIGNED_STACK" Bundle.steD) (List.mem_of_getElem? (i := 278) (by decide +kernel))) (hts0 (.initialized Bundle.tN) (List.mem_of_getElem? (i := 57) (by decide +kernel))) (hg _ lw_usM) hA, vx_Zqof (hts0 (.laysStatic Bundle.tN "SUPPRESSED_SENTINEL" Bundle.listD) (List.mem_of_getElem? (i := 280) (by decide +kernel))) (hts0 (.initialized Bundle.tN) (List.mem_of_getElem? (i := 57) (by decide +kernel))) (hg _ lw_ssM) hA, ⟨va_Nw.of rfl (hts0 (.declares (Bundle.initS "java/lang/RuntimeException")) (List.mem_of_getElem? (i := 317) (by decide +kernel))), va_Nw.of rfl (hts0 (.declares (Bundle.initS "java/lang/Exception")) (List.mem_of_getElem? (i := 319) (by decide +kernel))), va_Nw.of rfl (hts0 (.declares (Bundle.initS Bundle.tN)) (List.mem_of_getElem? (i := 321) (by decide +kernel))), va_Nw.of rfl (hts0 (.castable xIO xIO) (List.mem_of_getElem? (i := 348) (by decide +kernel))), va_Nw.of rfl (hts0 (.castable xIA xIA) (List.mem_of_getElem? (i := 364) (by decide +kernel))), va_Nw.of rfl (hts0 (.castable xAE xAE) (List.mem_of_getElem? (i := 447) (by decide +kernel))), va_Nw.of rfl (hts0 (.castable xIS xIS) (List.mem_of_getElem? (i := 653) (by decide +kernel)))⟩, ⟨vk_R.of (hts0 (Cond.stringRef RX2 174 "there is no such link") (List.mem_of_getElem? (i := 355) (by decide +kernel))) x0, vk_R.of (hts0 (Cond.stringRef RX2 179 "there is no such edge point") (List.mem_of_getElem? (i := 406) (by decide +kernel))) x1, vk_R.of (hts0 (Cond.stringRef RX2 181 "there is no such cell") (List.mem_of_getElem? (i := 417) (by decide +kernel))) x2, vk_R.of (hts0 (Cond.stringRef RX2 183 "there is no such side") (List.mem_of_getElem? (i := 491) (by decide +kernel))) x3, vk_R.of (hts0 (Cond.stringRef RX2 187 "a value is out of range") (List.mem_of_getElem? (i := 371) (by decide +kernel))) x4, vk_R.of (hts0 (Cond.stringRef RX2 190 "part is neither 0 nor 1") (List.mem_of_getElem? (i := 456) (by decide +kernel))) x5, vk_R.of (hts0 (Cond.stringRef RX2 192 "cells is empty or contains a cell that does not exist") (List.mem_of_getElem? (i := 573) (by decide +kernel))) x6, vk_R.of (hts0 (Cond.stringRef RX2 194 "a equals b") (List.mem_of_getElem? (i := 584) (by decide +kernel))) x7, vk_R.of (hts0 (Cond.stringRef RX2 198 "the grid is loose") (List.mem_of_getElem? (i := 462) (by decide +kernel))) x8, vk_R.of (hts0 (Cond.stringRef RX2 203 "there is no saved state") (List.mem_of_getElem? (i := 660) (by decide +kernel))) x9⟩⟩

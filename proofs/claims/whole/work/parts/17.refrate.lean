/-! the reference: greatest rates -/
theorem inR_nat1 {v : Int32} {a n : Nat} (hn : n < 2 ^ 31) (ha : a ≤ n) (h : inR v (nI a) (nI n) = true) : ∃ c, a ≤ c ∧ c ≤ n ∧ v = nI c := by
  unfold inR at h
  rw [Bool.and_eq_true, decide_eq_true_eq, decide_eq_true_eq] at h
  have h1 : ¬ v < 0 := by
    rw [Int32.not_lt]
    exact Int32.le_trans (nI_le (Nat.zero_le a) (by omega)) h.1
  obtain ⟨j, hj, e⟩ := nI_of2 (M := nI n) (n := n) (nI_toInt hn) h1 h.2
  refine ⟨j, ?_, hj, e⟩
  rw [e] at h
  exact (nI_leI (by omega) (by omega)).mp h.1
/-- heads above the limits for a set of wells, their loss; of a state; of the settings -/
def abU (u : MS) (S i : Nat) : Int64 := abF (u.2.2.1 9) (u.2.2.1 8) u.2.2.2.2.2.1 (u.1 1) S i 9
def byU (u : MS) (S i : Nat) : Int64 := byF (u.2.2.1 8) S i 9
def grU (u : MS) (S : Nat) : Int32 := if isF (abU u S) 9 = true then (gmF (abU u S) (byU u S) 9).toInt32 else -1
def boF (rf : Nat → Int64) : Nat → Int64 × Int32
  | 0 => (-1, nI 0)
  | t + 1 => if 0 ≤ rf t ∧ (boF rf t).1 < (nI t).toInt64 + rf t then ((nI t).toInt64 + rf t, nI (10000 * t) + (rf t).toInt32) else boF rf t
def boU (u : MS) (a b : Nat) : Int32 := if isF (abU u (2 ^ a ||| 2 ^ b)) 9 = true then (boF (fun t => rfM (abU u (2 ^ a ||| 2 ^ b)) (u.2.2.1 8) a b (nI t).toInt64 9 0 1000) 1001).2 else -1
section AU
variable {now : Nat → Int32} {u9 : MS}
theorem sv_ab (h : svd now u9) (hn : u9.1 1 = now) (S : Nat) {i : Nat} (hi : i < 9) : abU u9 S i = abU (cn now) S i := by
  unfold abU
  rw [hn, sv_w h, abF_congr (hd' := (cn now).2.2.1 9) (adj' := (cn now).2.2.1 8) (sv_9 h hi) (fun j hj => sv_8 h hi hj) (Nat.le_refl 9)]
  rfl
theorem sv_by (h : svd now u9) (S : Nat) {i : Nat} (hi : i < 9) : byU u9 S i = byU (cn now) S i := by
  unfold byU
  exact byF_congr (fun j hj => sv_8 h hi hj) (Nat.le_refl 9)
theorem sv_gr (h : svd now u9) (hn : u9.1 1 = now) (S : Nat) : grU u9 S = grU (cn now) S := by
  unfold grU
  rw [isF_congr (fun k hk => sv_ab h hn S hk), gmF_congr (fun k hk => ⟨sv_ab h hn S hk, sv_by h S hk⟩)]
theorem rfM_congr {ab ab' adj adj' : Nat → Int64} {a b : Nat} {t : Int64} (ha : a < 9) (hb : b < 9) (h1 : ∀ i, i < 9 → ab i = ab' i) (h2 : ∀ i, i < 9 → ∀ j, j < 9 → adj (9 * i + j) = adj' (9 * i + j)) : ∀ (n i : Nat) (z : Int64), i + n ≤ 9 → rfM ab adj a b t n i z = rfM ab' adj' a b t n i z
  | 0, _, _, _ => rfl
  | n + 1, i, z, h => by rw [rfM, rfM, h1 i (by omega), h2 i (by omega) a ha, h2 i (by omega) b hb, rfM_congr ha hb h1 h2 n (i + 1) _ (by omega)]
theorem boF_congr {f g : Nat → Int64} : ∀ {n : Nat}, (∀ k, k < n → f k = g k) → boF f n = boF g n
  | 0, _ => rfl
  | n + 1, h => by rw [boF, boF, boF_congr (fun k hk => h k (by omega)), h n (by omega)]
theorem sv_bo (h : svd now u9) (hn : u9.1 1 = now) {a b : Nat} (ha : a < 9) (hb : b < 9) : boU u9 a b = boU (cn now) a b := by
  unfold boU
  rw [isF_congr (fun k hk => sv_ab h hn _ hk), boF_congr (fun t _ => rfM_congr ha hb (fun i hi => sv_ab h hn _ hi) (fun i hi j hj => sv_8 h hi hj) 9 0 1000 (by omega))]
end AU
theorem frJ_U {u u1 : MS} (h : frJ [10, 11] u u1) (S : Nat) : abU u1 S = abU u S ∧ byU u1 S = byU u S ∧ u1.2.2.1 8 = u.2.2.1 8 := by
  refine ⟨?_, ?_, h.2.2.2 8 (by decide)⟩
  · funext i; unfold abU; rw [h.1, h.2.2.1, h.2.2.2 8 (by decide), h.2.2.2 9 (by decide)]
  · funext i; unfold byU; rw [h.2.2.2 8 (by decide)]
theorem upd3 (f : Nat → Int64) (i : Nat) (v : Int64) : vp_updL f i v i = v := if_pos rfl
theorem hd_X3_laysAbove : yX3_laysAbove.cls = RX3 ∧ yX3_laysAbove.cls ≠ "java/lang/invoke/MethodHandle" ∧ yX3_laysAbove.cls ≠ "java/lang/invoke/VarHandle" ∧ (parseMethodDescriptor yX3_laysAbove.desc).map (fun d => d.parameters.length) = some 1 := by decide +kernel
set_option maxHeartbeats 4000000 in
set_option maxRecDepth 100000 in
/-- laysAbove(set) -/
theorem c_X3_laysAbove (l : Launch) (dd : va_G) (cy : Nat → ClassId) (ad : Nat → Nat) (X : va_W) (u : MS) (sz : Nat) (S0 : Nat) (hS0 : S0 < 512) : Met l yX3_laysAbove wsX3_laysAbove ({ frames := 0, cells := 0, slots := 0, locals := 0 }) (va_Pc [.ref (ad 0), .int (nI S0)] (wrW dd cy (wM cy ad u ++ X) sz)) (va_Qi (fun r u9 => r = bI (isF (abU u S0) 9) ∧ frJ [10, 11] u u9 ∧ (∀ a, a < 9 → u9.2.2.1 10 a = abU u S0 a ∧ u9.2.2.1 11 a = byU u S0 a)) (wB dd cy (fun u9 : MS => wM cy ad u9 ++ X) (va_A (wM cy ad u ++ X) sz)) (va_A (wM cy ad u ++ X) sz)) 0 0 (va_A (wM cy ad u ++ X) sz) := by
  refine Met.ofW (cc := cX3_laysAbove) (maxL := 5) (ret := (some .boolean)) (by decide) rfl ?_
  intro p e s m args below meth c s₁ B hml hv
  obtain ⟨rfl, hsz, hP, hK, hD0⟩ := hv
  have hx := B.exec
  have hb := B.bytes
  have hr := B.returns
  have hts := atoms_spec (ws := wsX3_laysAbove) B.pre
  have hown : s.vm.findClass RX3 = some m.cls := findClass_of_methodNamed B.named
  have hlocks := B.notSynchronized
  subst hsz
  have hD := hD0.self (sz := s.heap.size)
  generalize hAe : va_A (wM cy ad u ++ X) s.heap.size = A at hD ⊢
  have hA : ∀ q : Nat, s.heap.size ≤ q → A q := fun q h => by rw [← hAe]; exact Or.inr h
  have hS : va_S A s.heap s.heap [] := va_S.rf
  have hl := lv_entry ([.ref (ad 0), .int (nI S0)]) (n := 5) (Nat.le_of_ble_eq_true rfl)
  rw [lg_entry_eq]
  generalize (lg_sl ([.ref (ad 0), .int (nI S0)]) ++ List.replicate (5 - (lg_sl ([.ref (ad 0), .int (nI S0)])).length) Slot.unset).toArray = ls at hl ⊢
  have hl : lv_has ls 5 [(0, .ref (ad 0)), (1, .int (nI S0))] := hl
  refine lv_iconst (v := nI 1) hx hb dX3_laysAbove_0 (by decide) ?_
  refine lv_istore_n (lv' := [(2, .int (nI 1)), (0, .ref (ad 0)), (1, .int (nI S0))]) hx hb dX3_laysAbove_1 rfl hl (by decide) rfl (fun ls hl => ?_)
  refine lv_iconst (v := nI 0) hx hb dX3_laysAbove_2 (by decide) ?_
  refine lv_istore_n (lv' := [(3, .int (nI 0)), (2, .int (nI 1)), (0, .ref (ad 0)), (1, .int (nI S0))]) hx hb dX3_laysAbove_3 rfl hl (by decide) rfl (fun ls hl => ?_)
  refine wLoop (σ := Nat × Bool × MS) (fun k x H locs ls => k = 9 - x.1 ∧ (x.1 ≤ 9) ∧ (frJ [10, 11] u x.2.2) ∧ (laO (u.2.2.1 9) (u.2.2.1 8) u.2.2.2.2.2.1 (u.1 1) S0 x.1 (x.2.2.2.2.1 10) (x.2.2.2.2.1 11)) ∧ (x.2.1 = isF (abU u S0) x.1) ∧ va_P dd vwCl (wM cy ad x.2.2 ++ X) H ∧ va_D A (wM cy ad x.2.2 ++ X) ∧ va_S A s.heap H locs ∧ lv_has ls 5 [(3, .int (nI x.1)), (2, .int (bI x.2.1)), (1, .int (nI S0)), (0, .ref (ad 0))]) ?_ _ (0, true, u) _ _ _ ⟨rfl, (by omega), frJ_rf, (fun a9 h9 => absurd h9 (Nat.not_lt_zero a9)), rfl, hP, hD, hS, lv_sub hl [0, 1, 3, 2] rfl⟩
  intro ko x H locs ls hI iho
  obtain ⟨i0, b0, u1⟩ := x
  obtain ⟨hko, hi, hF, h1, hb0, hP, hD, hS, hl⟩ := hI
  have hko : ko = 9 - i0 := hko
  have hi : i0 ≤ 9 := hi
  have hF : frJ [10, 11] u u1 := hF
  have h1 : laO (u.2.2.1 9) (u.2.2.1 8) u.2.2.2.2.2.1 (u.1 1) S0 i0 (u1.2.2.1 10) (u1.2.2.1 11) := h1
  have hb0 : b0 = isF (abU u S0) i0 := hb0
  have hP : va_P dd vwCl (wM cy ad u1 ++ X) H := hP
  have hD : va_D A (wM cy ad u1 ++ X) := hD
  have hl : lv_has ls 5 [(3, .int (nI i0)), (2, .int (bI b0)), (1, .int (nI S0)), (0, .ref (ad 0))] := hl
  refine lv_iload_n hx hb dX3_laysAbove_4 rfl (lv_at hl 0 rfl) ?_
  refine lv_bipush (v := nI 9) hx hb dX3_laysAbove_5 (by decide) ?_
  refine wn_icmp_ge (tgt := 152) hx hb dX3_laysAbove_7 (by decide) (by omega) (by omega) (fun c1 => ?_) (fun c1 => ?_)
  · refine lv_iload_n hx hb dX3_laysAbove_152 rfl (lv_at hl 1 rfl) ?_
    exact W.zret (v := bI b0) hx hb hr (narrow_bI _) (fun t ht hW => ⟨⟨bI b0, u1, rfl, ⟨by rw [hb0, show i0 = 9 by omega], hF, fun a9 ha9 => h1 a9 (by omega)⟩, by rw [ht]; exact hP, va_K.moved hW.alike hK, hD⟩, hS.F ht⟩) hS.2.2 dX3_laysAbove_153
  · refine lv_aload_n hx hb dX3_laysAbove_10 rfl (lv_at hl 3 rfl) ?_
    refine va_get (D := dd) (ci := 5) (v := .ref (ad 10)) (C := RX3) (T := TX3) (N := 15) hx hb hts (fun _ h9 => List.mem_cons_of_mem _ (List.mem_append_left _ (List.mem_append_right _ h9))) hown hK hP 0 (wM_0 cy ad u1 X) rfl 12 (by decide) (hts (Cond.fieldLink RX3 39 "HeadGridModel" "above" "[J") (List.mem_of_getElem? (i := 1) rfl)) (fun _ h9 => h9) rfl dX3_laysAbove_11 ?_
    refine lv_iload_n hx hb dX3_laysAbove_14 rfl (lv_at hl 0 rfl) ?_
    refine lv_aload_n hx hb dX3_laysAbove_15 rfl (lv_at hl 3 rfl) ?_
    refine va_get (D := dd) (ci := 5) (v := .ref (ad 9)) (C := RX3) (T := TX3) (N := 15) hx hb hts (fun _ h9 => List.mem_cons_of_mem _ (List.mem_append_left _ (List.mem_append_right _ h9))) hown hK hP 0 (wM_0 cy ad u1 X) rfl 11 (by decide) (hts (Cond.fieldLink RX3 36 "HeadGridModel" "heads" "[J") (List.mem_of_getElem? (i := 2) rfl)) (fun _ h9 => h9) rfl dX3_laysAbove_16 ?_
    refine lv_iload_n hx hb dX3_laysAbove_19 rfl (lv_at hl 0 rfl) ?_
    refine wa_lald hx hb hK hP (wM_9 cy ad u1 X) (t0 := 1) rfl (i := i0) (by omega) (by decide) dX3_laysAbove_20 ?_
    refine lv_aload_n hx hb dX3_laysAbove_21 rfl (lv_at hl 3 rfl) ?_
    refine va_get (D := dd) (ci := 5) (v := .ref (ad 1)) (C := RX3) (T := TX3) (N := 15) hx hb hts (fun _ h9 => List.mem_cons_of_mem _ (List.mem_append_left _ (List.mem_append_right _ h9))) hown hK hP 0 (wM_0 cy ad u1 X) rfl 0 (by decide) (hts (Cond.fieldLink RX3 7 "HeadGridModel" "now" "[I") (List.mem_of_getElem? (i := 3) rfl)) (fun _ h9 => h9) rfl dX3_laysAbove_22 ?_
    refine lv_bipush (v := nI 63) hx hb dX3_laysAbove_25 (by decide) ?_
    refine lv_iload_n hx hb dX3_laysAbove_27 rfl (lv_at hl 0 rfl) ?_
    refine wn_iadd hx hb dX3_laysAbove_28 ?_
    refine wa_iald hx hb hK hP (wM_1 cy ad u1 X) (t0 := 0) rfl (i := 63 + i0) (by omega) (by decide) dX3_laysAbove_29 ?_
    refine lv_i2l hx hb dX3_laysAbove_30 rfl ?_
    refine lv_aload_n hx hb dX3_laysAbove_31 rfl (lv_at hl 3 rfl) ?_
    refine va_get (D := dd) (ci := 5) (v := .long u1.2.2.2.2.2.1) (C := RX3) (T := TX3) (N := 15) hx hb hts (fun _ h9 => List.mem_cons_of_mem _ (List.mem_append_left _ (List.mem_append_right _ h9))) hown hK hP 0 (wM_0 cy ad u1 X) rfl 10 (by decide) (hts (Cond.fieldLink RX3 87 "HeadGridModel" "whole" "J") (List.mem_of_getElem? (i := 4) rfl)) (fun _ h9 => h9) rfl dX3_laysAbove_32 ?_
    refine lv_lmul hx hb dX3_laysAbove_35 ?_
    refine lv_lsub hx hb dX3_laysAbove_36 ?_
    refine lv_topl (fun x2 ex2 => ?_)
    refine wa_last hx hb hK hP hD hS (wM_10 cy ad u1 X) (t0 := 1) rfl (i := i0) (by omega) (by decide) dX3_laysAbove_37 (wM_s10 cy ad u1 X _) (fun H locs hP hD hS => ?_)
    obtain ⟨us3, hus3⟩ : ∃ z9z : MS, z9z = (u1.1, u1.2.1, va_up u1.2.2.1 10 (vp_updL (u1.2.2.1 10) i0 x2), u1.2.2.2) := ⟨_, rfl⟩
    rw [← hus3] at hP hD
    have pus3_s : us3.2.2.1 10 = (vp_updL (u1.2.2.1 10) i0 x2) := by rw [hus3]; rfl
    have pus3_o : ∀ j9, j9 ≠ 10 → us3.2.2.1 j9 = u1.2.2.1 j9 := fun j9 h9 => by rw [hus3]; exact va_up_n h9
    have pus3_1 : us3.1 = u1.1 := by rw [hus3]
    have pus3_21 : us3.2.1 = u1.2.1 := by rw [hus3]
    have pus3_222 : us3.2.2.2 = u1.2.2.2 := by rw [hus3]
    refine lv_aload_n hx hb dX3_laysAbove_38 rfl (lv_at hl 3 rfl) ?_
    refine va_get (D := dd) (ci := 5) (v := .ref (ad 11)) (C := RX3) (T := TX3) (N := 15) hx hb hts (fun _ h9 => List.mem_cons_of_mem _ (List.mem_append_left _ (List.mem_append_right _ h9))) hown hK hP 0 (wM_0 cy ad us3 X) rfl 13 (by decide) (hts (Cond.fieldLink RX3 42 "HeadGridModel" "by" "[J") (List.mem_of_getElem? (i := 5) rfl)) (fun _ h9 => h9) rfl dX3_laysAbove_39 ?_
    refine lv_iload_n hx hb dX3_laysAbove_42 rfl (lv_at hl 0 rfl) ?_
    refine lv_lconst (v := 0) hx hb dX3_laysAbove_43 rfl ?_
    refine wa_last hx hb hK hP hD hS (wM_11 cy ad us3 X) (t0 := 1) rfl (i := i0) (by omega) (by decide) dX3_laysAbove_44 (wM_s11 cy ad us3 X _) (fun H locs hP hD hS => ?_)
    obtain ⟨us4, hus4⟩ : ∃ z9z : MS, z9z = (us3.1, us3.2.1, va_up us3.2.2.1 11 (vp_updL (us3.2.2.1 11) i0 0), us3.2.2.2) := ⟨_, rfl⟩
    rw [← hus4] at hP hD
    have pus4_s : us4.2.2.1 11 = (vp_updL (us3.2.2.1 11) i0 0) := by rw [hus4]; rfl
    have pus4_o : ∀ j9, j9 ≠ 11 → us4.2.2.1 j9 = us3.2.2.1 j9 := fun j9 h9 => by rw [hus4]; exact va_up_n h9
    have pus4_1 : us4.1 = us3.1 := by rw [hus4]
    have pus4_21 : us4.2.1 = us3.2.1 := by rw [hus4]
    have pus4_222 : us4.2.2.2 = us3.2.2.2 := by rw [hus4]
    refine lv_iconst (v := nI 0) hx hb dX3_laysAbove_45 (by decide) ?_
    refine lv_istore (lv' := [(4, .int (nI 0)), (3, .int (nI i0)), (2, .int (bI b0)), (1, .int (nI S0)), (0, .ref (ad 0))]) hx hb dX3_laysAbove_46 hl (by decide) rfl (fun ls hl => ?_)
    refine wLoop (σ := Nat × MS) (fun k x H locs ls => k = 9 - x.1 ∧ (x.1 ≤ 9) ∧ (frJ [10, 11] u x.2) ∧ (laI (u.2.2.1 9) (u.2.2.1 8) u.2.2.2.2.2.1 (u.1 1) S0 i0 x.1 (x.2.2.2.1 10) (x.2.2.2.1 11)) ∧ va_P dd vwCl (wM cy ad x.2 ++ X) H ∧ va_D A (wM cy ad x.2 ++ X) ∧ va_S A s.heap H locs ∧ lv_has ls 5 [(4, .int (nI x.1)), (3, .int (nI i0)), (2, .int (bI b0)), (1, .int (nI S0)), (0, .ref (ad 0))]) ?_ _ (0, us4) _ _ _ ⟨rfl, (by omega), (frJ_set (frJ_set hF (by decide) hus3) (by decide) hus4), (by rw [pus4_s, pus4_o 10 (by decide), pus3_s, ex2, pus3_o 11 (by decide), hF.2.2.2 9 (by decide), hF.2.2.1, hF.1]; exact laI_0 h1), hP, hD, hS, lv_sub hl [0, 1, 2, 3, 4] rfl⟩
    intro ki x H locs ls hI ihi
    obtain ⟨j0, u2⟩ := x
    obtain ⟨hki, hj, hF, h2, hP, hD, hS, hl⟩ := hI
    have hki : ki = 9 - j0 := hki
    have hj : j0 ≤ 9 := hj
    have hF : frJ [10, 11] u u2 := hF
    have h2 : laI (u.2.2.1 9) (u.2.2.1 8) u.2.2.2.2.2.1 (u.1 1) S0 i0 j0 (u2.2.2.1 10) (u2.2.2.1 11) := h2
    have hP : va_P dd vwCl (wM cy ad u2 ++ X) H := hP
    have hD : va_D A (wM cy ad u2 ++ X) := hD
    have hl : lv_has ls 5 [(4, .int (nI j0)), (3, .int (nI i0)), (2, .int (bI b0)), (1, .int (nI S0)), (0, .ref (ad 0))] := hl
    refine lv_iload hx hb dX3_laysAbove_48 (lv_at hl 0 rfl) ?_
    refine lv_bipush (v := nI 9) hx hb dX3_laysAbove_50 (by decide) ?_
    refine wn_icmp_ge (tgt := 125) hx hb dX3_laysAbove_52 (by decide) (by omega) (by omega) (fun c5 => ?_) (fun c5 => ?_)
    · refine lv_iload_n hx hb dX3_laysAbove_125 rfl (lv_at hl 2 rfl) ?_
      refine wb_if_eq (tgt := 144) hx hb dX3_laysAbove_126 (by decide) (fun cZ => ?_) (fun cZ => ?_)
      · refine lv_iconst (v := nI 0) hx hb dX3_laysAbove_144 (by decide) ?_
        refine lv_istore_n (lv' := [(2, .int (nI 0)), (4, .int (nI j0)), (3, .int (nI i0)), (1, .int (nI S0)), (0, .ref (ad 0))]) hx hb dX3_laysAbove_145 rfl hl (by decide) rfl (fun ls hl => ?_)
        refine lv_iinc (v := (nI (i0 + 1))) (lv' := [(3, .int (nI (i0 + 1))), (2, .int (nI 0)), (4, .int (nI j0)), (1, .int (nI S0)), (0, .ref (ad 0))]) hx hb dX3_laysAbove_146 hl (k := 2) rfl (nI_1 _) (by decide) rfl (fun ls hl => ?_)
        refine lv_goto (tgt := 4) hx hb dX3_laysAbove_149 (by decide) ?_
        exact iho (9 - (i0 + 1)) (i0 + 1, false, u2) _ _ ls (by omega) ⟨rfl, (by omega), hF, (laI_n (by rw [show j0 = 9 by omega] at h2; exact h2)), (by rw [isF, ← hb0, cZ]; rfl), hP, hD, hS, lv_sub hl [0, 1, 3, 4] rfl⟩
      · refine lv_aload_n hx hb dX3_laysAbove_129 rfl (lv_at hl 4 rfl) ?_
        refine va_get (D := dd) (ci := 5) (v := .ref (ad 10)) (C := RX3) (T := TX3) (N := 15) hx hb hts (fun _ h9 => List.mem_cons_of_mem _ (List.mem_append_left _ (List.mem_append_right _ h9))) hown hK hP 0 (wM_0 cy ad u2 X) rfl 12 (by decide) (hts (Cond.fieldLink RX3 39 "HeadGridModel" "above" "[J") (List.mem_of_getElem? (i := 1) rfl)) (fun _ h9 => h9) rfl dX3_laysAbove_130 ?_
        refine lv_iload_n hx hb dX3_laysAbove_133 rfl (lv_at hl 1 rfl) ?_
        refine wa_lald hx hb hK hP (wM_10 cy ad u2 X) (t0 := 1) rfl (i := i0) (by omega) (by decide) dX3_laysAbove_134 ?_
        refine lv_lconst (v := 0) hx hb dX3_laysAbove_135 rfl ?_
        refine wl_lt (tgt := 144) hx hb dX3_laysAbove_136 dX3_laysAbove_137 (by decide) (fun cN => ?_) (fun cN => ?_)
        · refine lv_iconst (v := nI 0) hx hb dX3_laysAbove_144 (by decide) ?_
          refine lv_istore_n (lv' := [(2, .int (nI 0)), (4, .int (nI j0)), (3, .int (nI i0)), (1, .int (nI S0)), (0, .ref (ad 0))]) hx hb dX3_laysAbove_145 rfl hl (by decide) rfl (fun ls hl => ?_)
          refine lv_iinc (v := (nI (i0 + 1))) (lv' := [(3, .int (nI (i0 + 1))), (2, .int (nI 0)), (4, .int (nI j0)), (1, .int (nI S0)), (0, .ref (ad 0))]) hx hb dX3_laysAbove_146 hl (k := 2) rfl (nI_1 _) (by decide) rfl (fun ls hl => ?_)
          refine lv_goto (tgt := 4) hx hb dX3_laysAbove_149 (by decide) ?_
          exact iho (9 - (i0 + 1)) (i0 + 1, false, u2) _ _ ls (by omega) ⟨rfl, (by omega), hF, (laI_n (by rw [show j0 = 9 by omega] at h2; exact h2)), (by have e9 : u2.2.2.1 10 i0 = abU u S0 i0 := (by have q9 := h2.2.1; rw [show j0 = 9 by omega] at q9; exact q9); rw [isF, ← e9, decide_eq_false (show ¬ 0 ≤ u2.2.2.1 10 i0 by rw [Int64.not_le]; exact cN), Bool.and_false]), hP, hD, hS, lv_sub hl [0, 1, 3, 4] rfl⟩
        · refine lv_iconst (v := nI 1) hx hb dX3_laysAbove_140 (by decide) ?_
          refine lv_goto (tgt := 145) hx hb dX3_laysAbove_141 (by decide) ?_
          refine lv_istore_n (lv' := [(2, .int (nI 1)), (4, .int (nI j0)), (3, .int (nI i0)), (1, .int (nI S0)), (0, .ref (ad 0))]) hx hb dX3_laysAbove_145 rfl hl (by decide) rfl (fun ls hl => ?_)
          refine lv_iinc (v := (nI (i0 + 1))) (lv' := [(3, .int (nI (i0 + 1))), (2, .int (nI 1)), (4, .int (nI j0)), (1, .int (nI S0)), (0, .ref (ad 0))]) hx hb dX3_laysAbove_146 hl (k := 2) rfl (nI_1 _) (by decide) rfl (fun ls hl => ?_)
          refine lv_goto (tgt := 4) hx hb dX3_laysAbove_149 (by decide) ?_
          exact iho (9 - (i0 + 1)) (i0 + 1, true, u2) _ _ ls (by omega) ⟨rfl, (by omega), hF, (laI_n (by rw [show j0 = 9 by omega] at h2; exact h2)), (by have e9 : u2.2.2.1 10 i0 = abU u S0 i0 := (by have q9 := h2.2.1; rw [show j0 = 9 by omega] at q9; exact q9); rw [isF, ← hb0, cZ, ← e9, decide_eq_true (show 0 ≤ u2.2.2.1 10 i0 by rw [← Int64.not_lt]; exact cN)]; rfl), hP, hD, hS, lv_sub hl [0, 1, 3, 4] rfl⟩
    · refine lv_iload_n hx hb dX3_laysAbove_55 rfl (lv_at hl 3 rfl) ?_
      refine lv_iload hx hb dX3_laysAbove_56 (lv_at hl 0 rfl) ?_
      refine lv_ishr hx hb dX3_laysAbove_58 ?_
      refine lv_iconst (v := nI 1) hx hb dX3_laysAbove_59 (by decide) ?_
      refine lv_iand hx hb dX3_laysAbove_60 ?_
      refine lv_iconst (v := nI 1) hx hb dX3_laysAbove_61 (by decide) ?_
      refine lv_icmp_ne (tgt := 119) hx hb dX3_laysAbove_62 (by decide) (fun cB => ?_) (fun cB => ?_)
      · refine lv_iinc (v := (nI (j0 + 1))) (lv' := [(4, .int (nI (j0 + 1))), (3, .int (nI i0)), (2, .int (bI b0)), (1, .int (nI S0)), (0, .ref (ad 0))]) hx hb dX3_laysAbove_119 hl (k := 0) rfl (nI_1 _) (by decide) rfl (fun ls hl => ?_)
        refine lv_goto (tgt := 48) hx hb dX3_laysAbove_122 (by decide) ?_
        exact ihi (9 - (j0 + 1)) (j0 + 1, u2) _ _ ls (by omega) ⟨rfl, (by omega), hF, (laI_skip h2 (by simpa using fun q => cB ((bit1 hS0 (by omega)).mpr q))), hP, hD, hS, lv_sub hl [0, 1, 2, 3, 4] rfl⟩
      · refine lv_aload_n hx hb dX3_laysAbove_65 rfl (lv_at hl 4 rfl) ?_
        refine va_get (D := dd) (ci := 5) (v := .ref (ad 10)) (C := RX3) (T := TX3) (N := 15) hx hb hts (fun _ h9 => List.mem_cons_of_mem _ (List.mem_append_left _ (List.mem_append_right _ h9))) hown hK hP 0 (wM_0 cy ad u2 X) rfl 12 (by decide) (hts (Cond.fieldLink RX3 39 "HeadGridModel" "above" "[J") (List.mem_of_getElem? (i := 1) rfl)) (fun _ h9 => h9) rfl dX3_laysAbove_66 ?_
        refine lv_iload_n hx hb dX3_laysAbove_69 rfl (lv_at hl 1 rfl) ?_
        refine lv_dup2_11 hx hb dX3_laysAbove_70 rfl rfl ?_
        refine wa_lald hx hb hK hP (wM_10 cy ad u2 X) (t0 := 1) rfl (i := i0) (by omega) (by decide) dX3_laysAbove_71 ?_
        refine lv_aload_n hx hb dX3_laysAbove_72 rfl (lv_at hl 4 rfl) ?_
        refine va_get (D := dd) (ci := 5) (v := .ref (ad 8)) (C := RX3) (T := TX3) (N := 15) hx hb hts (fun _ h9 => List.mem_cons_of_mem _ (List.mem_append_left _ (List.mem_append_right _ h9))) hown hK hP 0 (wM_0 cy ad u2 X) rfl 9 (by decide) (hts (Cond.fieldLink RX3 33 "HeadGridModel" "adjugate" "[J") (List.mem_of_getElem? (i := 6) rfl)) (fun _ h9 => h9) rfl dX3_laysAbove_73 ?_
        refine lv_bipush (v := nI 9) hx hb dX3_laysAbove_76 (by decide) ?_
        refine lv_iload_n hx hb dX3_laysAbove_78 rfl (lv_at hl 1 rfl) ?_
        refine wn_imul hx hb dX3_laysAbove_79 ?_
        refine lv_iload hx hb dX3_laysAbove_80 (lv_at hl 0 rfl) ?_
        refine wn_iadd hx hb dX3_laysAbove_82 ?_
        refine wa_lald hx hb hK hP (wM_8 cy ad u2 X) (t0 := 1) rfl (i := (9 * i0) + j0) (by omega) (by decide) dX3_laysAbove_83 ?_
        refine lv_aload_n hx hb dX3_laysAbove_84 rfl (lv_at hl 4 rfl) ?_
        refine va_get (D := dd) (ci := 5) (v := .ref (ad 1)) (C := RX3) (T := TX3) (N := 15) hx hb hts (fun _ h9 => List.mem_cons_of_mem _ (List.mem_append_left _ (List.mem_append_right _ h9))) hown hK hP 0 (wM_0 cy ad u2 X) rfl 0 (by decide) (hts (Cond.fieldLink RX3 7 "HeadGridModel" "now" "[I") (List.mem_of_getElem? (i := 3) rfl)) (fun _ h9 => h9) rfl dX3_laysAbove_85 ?_
        refine lv_bipush (v := nI 45) hx hb dX3_laysAbove_88 (by decide) ?_
        refine lv_iload hx hb dX3_laysAbove_90 (lv_at hl 0 rfl) ?_
        refine wn_iadd hx hb dX3_laysAbove_92 ?_
        refine wa_iald hx hb hK hP (wM_1 cy ad u2 X) (t0 := 0) rfl (i := 45 + j0) (by omega) (by decide) dX3_laysAbove_93 ?_
        refine lv_i2l hx hb dX3_laysAbove_94 rfl ?_
        refine lv_lmul hx hb dX3_laysAbove_95 ?_
        refine lv_ladd hx hb dX3_laysAbove_96 ?_
        refine lv_topl (fun x6 ex6 => ?_)
        refine wa_last hx hb hK hP hD hS (wM_10 cy ad u2 X) (t0 := 1) rfl (i := i0) (by omega) (by decide) dX3_laysAbove_97 (wM_s10 cy ad u2 X _) (fun H locs hP hD hS => ?_)
        obtain ⟨us7, hus7⟩ : ∃ z9z : MS, z9z = (u2.1, u2.2.1, va_up u2.2.2.1 10 (vp_updL (u2.2.2.1 10) i0 x6), u2.2.2.2) := ⟨_, rfl⟩
        rw [← hus7] at hP hD
        have pus7_s : us7.2.2.1 10 = (vp_updL (u2.2.2.1 10) i0 x6) := by rw [hus7]; rfl
        have pus7_o : ∀ j9, j9 ≠ 10 → us7.2.2.1 j9 = u2.2.2.1 j9 := fun j9 h9 => by rw [hus7]; exact va_up_n h9
        have pus7_1 : us7.1 = u2.1 := by rw [hus7]
        have pus7_21 : us7.2.1 = u2.2.1 := by rw [hus7]
        have pus7_222 : us7.2.2.2 = u2.2.2.2 := by rw [hus7]
        refine lv_aload_n hx hb dX3_laysAbove_98 rfl (lv_at hl 4 rfl) ?_
        refine va_get (D := dd) (ci := 5) (v := .ref (ad 11)) (C := RX3) (T := TX3) (N := 15) hx hb hts (fun _ h9 => List.mem_cons_of_mem _ (List.mem_append_left _ (List.mem_append_right _ h9))) hown hK hP 0 (wM_0 cy ad us7 X) rfl 13 (by decide) (hts (Cond.fieldLink RX3 42 "HeadGridModel" "by" "[J") (List.mem_of_getElem? (i := 5) rfl)) (fun _ h9 => h9) rfl dX3_laysAbove_99 ?_
        refine lv_iload_n hx hb dX3_laysAbove_102 rfl (lv_at hl 1 rfl) ?_
        refine lv_dup2_11 hx hb dX3_laysAbove_103 rfl rfl ?_
        refine wa_lald hx hb hK hP (wM_11 cy ad us7 X) (t0 := 1) rfl (i := i0) (by omega) (by decide) dX3_laysAbove_104 ?_
        refine lv_aload_n hx hb dX3_laysAbove_105 rfl (lv_at hl 4 rfl) ?_
        refine va_get (D := dd) (ci := 5) (v := .ref (ad 8)) (C := RX3) (T := TX3) (N := 15) hx hb hts (fun _ h9 => List.mem_cons_of_mem _ (List.mem_append_left _ (List.mem_append_right _ h9))) hown hK hP 0 (wM_0 cy ad us7 X) rfl 9 (by decide) (hts (Cond.fieldLink RX3 33 "HeadGridModel" "adjugate" "[J") (List.mem_of_getElem? (i := 6) rfl)) (fun _ h9 => h9) rfl dX3_laysAbove_106 ?_
        refine lv_bipush (v := nI 9) hx hb dX3_laysAbove_109 (by decide) ?_
        refine lv_iload_n hx hb dX3_laysAbove_111 rfl (lv_at hl 1 rfl) ?_
        refine wn_imul hx hb dX3_laysAbove_112 ?_
        refine lv_iload hx hb dX3_laysAbove_113 (lv_at hl 0 rfl) ?_
        refine wn_iadd hx hb dX3_laysAbove_115 ?_
        refine wa_lald hx hb hK hP (wM_8 cy ad us7 X) (t0 := 1) rfl (i := (9 * i0) + j0) (by omega) (by decide) dX3_laysAbove_116 ?_
        refine lv_ladd hx hb dX3_laysAbove_117 ?_
        refine lv_topl (fun x8 ex8 => ?_)
        refine wa_last hx hb hK hP hD hS (wM_11 cy ad us7 X) (t0 := 1) rfl (i := i0) (by omega) (by decide) dX3_laysAbove_118 (wM_s11 cy ad us7 X _) (fun H locs hP hD hS => ?_)
        obtain ⟨us9, hus9⟩ : ∃ z9z : MS, z9z = (us7.1, us7.2.1, va_up us7.2.2.1 11 (vp_updL (us7.2.2.1 11) i0 x8), us7.2.2.2) := ⟨_, rfl⟩
        rw [← hus9] at hP hD
        have pus9_s : us9.2.2.1 11 = (vp_updL (us7.2.2.1 11) i0 x8) := by rw [hus9]; rfl
        have pus9_o : ∀ j9, j9 ≠ 11 → us9.2.2.1 j9 = us7.2.2.1 j9 := fun j9 h9 => by rw [hus9]; exact va_up_n h9
        have pus9_1 : us9.1 = us7.1 := by rw [hus9]
        have pus9_21 : us9.2.1 = us7.2.1 := by rw [hus9]
        have pus9_222 : us9.2.2.2 = us7.2.2.2 := by rw [hus9]
        refine lv_iinc (v := (nI (j0 + 1))) (lv' := [(4, .int (nI (j0 + 1))), (3, .int (nI i0)), (2, .int (bI b0)), (1, .int (nI S0)), (0, .ref (ad 0))]) hx hb dX3_laysAbove_119 hl (k := 0) rfl (nI_1 _) (by decide) rfl (fun ls hl => ?_)
        refine lv_goto (tgt := 48) hx hb dX3_laysAbove_122 (by decide) ?_
        exact ihi (9 - (j0 + 1)) (j0 + 1, us9) _ _ ls (by omega) ⟨rfl, (by omega), (frJ_set (frJ_set hF (by decide) hus7) (by decide) hus9), (by rw [pus9_s, ex8, pus9_o 10 (by decide), pus7_s, ex6, pus7_o 11 (by decide), pus7_o 8 (by decide), hF.2.2.2 8 (by decide), hF.1]; exact laI_take h2 ((bit1 hS0 (by omega)).mp cB)), hP, hD, hS, lv_sub hl [0, 1, 2, 3, 4] rfl⟩
theorem hd_X3_greatest : yX3_greatest.cls = RX3 ∧ yX3_greatest.cls ≠ "java/lang/invoke/MethodHandle" ∧ yX3_greatest.cls ≠ "java/lang/invoke/VarHandle" ∧ (parseMethodDescriptor yX3_greatest.desc).map (fun d => d.parameters.length) = some 1 := by decide +kernel
set_option maxHeartbeats 4000000 in
set_option maxRecDepth 100000 in
/-- greatest(set) -/
theorem c_X3_greatest (l : Launch) (dd : va_G) (cy : Nat → ClassId) (ad : Nat → Nat) (X : va_W) (u : MS) (sz : Nat) (S0 : Nat) (hS0 : S0 < 512) : Met l yX3_greatest wsX3_greatest ({ frames := 1, cells := 0, slots := 0, locals := 24 }) (va_Pc [.ref (ad 0), .int (nI S0)] (wrW dd cy (wM cy ad u ++ X) sz)) (va_Qi (fun r u9 => r = grU u S0 ∧ frJ [10, 11] u u9) (wB dd cy (fun u9 : MS => wM cy ad u9 ++ X) (va_A (wM cy ad u ++ X) sz)) (va_A (wM cy ad u ++ X) sz)) 0 0 (va_A (wM cy ad u ++ X) sz) := by
  refine Met.ofW (cc := cX3_greatest) (maxL := 5) (ret := (some .int)) (by decide) rfl ?_
  intro p e s m args below meth c s₁ B hml hv
  obtain ⟨rfl, hsz, hP, hK, hD0⟩ := hv
  have hx := B.exec
  have hb := B.bytes
  have hr := B.returns
  have hts := atoms_spec (ws := wsX3_greatest) B.pre
  have hown : s.vm.findClass RX3 = some m.cls := findClass_of_methodNamed B.named
  have hlocks := B.notSynchronized
  subst hsz
  have hD := hD0.self (sz := s.heap.size)
  generalize hAe : va_A (wM cy ad u ++ X) s.heap.size = A at hD ⊢
  have hA : ∀ q : Nat, s.heap.size ≤ q → A q := fun q h => by rw [← hAe]; exact Or.inr h
  have hS : va_S A s.heap s.heap [] := va_S.rf
  have hl := lv_entry ([.ref (ad 0), .int (nI S0)]) (n := 5) (Nat.le_of_ble_eq_true rfl)
  rw [lg_entry_eq]
  generalize (lg_sl ([.ref (ad 0), .int (nI S0)]) ++ List.replicate (5 - (lg_sl ([.ref (ad 0), .int (nI S0)])).length) Slot.unset).toArray = ls at hl ⊢
  have hl : lv_has ls 5 [(0, .ref (ad 0)), (1, .int (nI S0))] := hl
  refine lv_aload_n hx hb dX3_greatest_0 rfl (lv_at hl 0 rfl) ?_
  refine lv_iload_n hx hb dX3_greatest_1 rfl (lv_at hl 1 rfl) ?_
  refine wc_calli (va_runV (As := [.int (nI S0)]) (rest := []) ⟨hx, hb, hml, hown, hts⟩ (c_X3_laysAbove l dd cy ad X u _ S0 hS0) (cwV 1 hts gX3_greatest_X3_laysAbove rfl rfl rfl hd_X3_laysAbove ⟨Nat.le_of_ble_eq_true rfl, Nat.le_of_ble_eq_true rfl⟩) (wrW_V hP hK hD (wM_0 cy ad u X) rfl) rfl rfl hl.1 rfl (lv_room (Nat.le_of_ble_eq_true rfl)) dX3_greatest_2 ⟨Nat.le_of_ble_eq_true rfl, Nat.le_of_ble_eq_true rfl⟩) hD hS hA (fun r1 us2 H locs w3 hP hD hS => ?_)
  obtain ⟨hr1, hfA, hAB⟩ := w3
  subst hr1
  refine wb_if_ne (tgt := 10) hx hb dX3_greatest_5 (by decide) (fun cL => ?_) (fun cL => ?_)
  · refine lv_ldc2 hx hb hown (hts _ (List.mem_of_getElem? (i := 1) rfl)) dX3_greatest_10 ?_
    refine lv_lstore_n (lv' := [(2, .long 1000), (0, .ref (ad 0)), (1, .int (nI S0))]) hx hb dX3_greatest_13 rfl hl (by decide) rfl (fun ls hl => ?_)
    refine lv_iconst (v := nI 0) hx hb dX3_greatest_14 (by decide) ?_
    refine lv_istore (lv' := [(4, .int (nI 0)), (2, .long 1000), (0, .ref (ad 0)), (1, .int (nI S0))]) hx hb dX3_greatest_15 hl (by decide) rfl (fun ls hl => ?_)
    refine wLoopR (σ := Nat × Int64) (fun k x ls => k = 9 - x.1 ∧ (x.1 ≤ 9) ∧ (x.2 = gmF (abU u S0) (byU u S0) x.1) ∧ lv_has ls 5 [(4, .int (nI x.1)), (2, .long x.2), (1, .int (nI S0)), (0, .ref (ad 0))]) ?_ _ (0, 1000) _ ⟨rfl, (by omega), rfl, lv_sub hl [0, 1, 3, 2] rfl⟩
    intro kg x ls hI ihg
    obtain ⟨i0, z⟩ := x
    obtain ⟨hkg, hi, hz, hl⟩ := hI
    have hkg : kg = 9 - i0 := hkg
    have hi : i0 ≤ 9 := hi
    have hz : z = gmF (abU u S0) (byU u S0) i0 := hz
    have hl : lv_has ls 5 [(4, .int (nI i0)), (2, .long z), (1, .int (nI S0)), (0, .ref (ad 0))] := hl
    refine lv_iload hx hb dX3_greatest_17 (lv_at hl 0 rfl) ?_
    refine lv_bipush (v := nI 9) hx hb dX3_greatest_19 (by decide) ?_
    refine wn_icmp_ge (tgt := 82) hx hb dX3_greatest_21 (by decide) (by omega) (by omega) (fun c4 => ?_) (fun c4 => ?_)
    · refine lv_lload_n hx hb dX3_greatest_82 rfl (lv_at hl 1 rfl) ?_
      refine lv_l2i hx hb dX3_greatest_83 rfl ?_
      exact W.iret (v := z.toInt32) hx hb hr (fun t ht hW => ⟨⟨z.toInt32, us2, rfl, ⟨by unfold grU; rw [cL, if_pos rfl, hz, show i0 = 9 by omega], hfA⟩, by rw [ht]; exact hP, va_K.moved hW.alike hK, hD⟩, hS.F ht⟩) hS.2.2 dX3_greatest_84
    · refine lv_aload_n hx hb dX3_greatest_24 rfl (lv_at hl 3 rfl) ?_
      refine va_get (D := dd) (ci := 5) (v := .ref (ad 11)) (C := RX3) (T := TX3) (N := 15) hx hb hts (fun _ h9 => List.mem_cons_of_mem _ (List.mem_append_left _ (List.mem_append_left _ (List.mem_append_right _ h9)))) hown hK hP 0 (wM_0 cy ad us2 X) rfl 13 (by decide) (hts (Cond.fieldLink RX3 42 "HeadGridModel" "by" "[J") (List.mem_of_getElem? (i := 2) rfl)) (fun _ h9 => h9) rfl dX3_greatest_25 ?_
      refine lv_iload hx hb dX3_greatest_28 (lv_at hl 0 rfl) ?_
      refine wa_lald hx hb hK hP (wM_11 cy ad us2 X) (t0 := 1) rfl (i := i0) (by omega) (by decide) dX3_greatest_30 ?_
      refine lv_lconst (v := 0) hx hb dX3_greatest_31 rfl ?_
      refine wl_le (tgt := 74) hx hb dX3_greatest_32 dX3_greatest_33 (by decide) (fun cA => ?_) (fun cA => ?_)
      · refine lv_lload_n hx hb dX3_greatest_74 rfl (lv_at hl 1 rfl) ?_
        refine lv_lstore_n (lv' := [(2, .long z), (4, .int (nI i0)), (1, .int (nI S0)), (0, .ref (ad 0))]) hx hb dX3_greatest_75 rfl hl (by decide) rfl (fun ls hl => ?_)
        refine lv_iinc (v := (nI (i0 + 1))) (lv' := [(4, .int (nI (i0 + 1))), (2, .long z), (1, .int (nI S0)), (0, .ref (ad 0))]) hx hb dX3_greatest_76 hl (k := 1) rfl (nI_1 _) (by decide) rfl (fun ls hl => ?_)
        refine lv_goto (tgt := 17) hx hb dX3_greatest_79 (by decide) ?_
        exact ihg (9 - (i0 + 1)) (i0 + 1, z) ls (by omega) ⟨rfl, (by omega), (by rw [gmF, ← hz, if_neg (fun h9 => absurd h9.1 (by rw [Int64.not_lt, ← (hAB i0 (by omega)).2]; exact cA))]), lv_sub hl [0, 1, 2, 3] rfl⟩
      · refine lv_aload_n hx hb dX3_greatest_36 rfl (lv_at hl 3 rfl) ?_
        refine va_get (D := dd) (ci := 5) (v := .ref (ad 10)) (C := RX3) (T := TX3) (N := 15) hx hb hts (fun _ h9 => List.mem_cons_of_mem _ (List.mem_append_left _ (List.mem_append_left _ (List.mem_append_right _ h9)))) hown hK hP 0 (wM_0 cy ad us2 X) rfl 12 (by decide) (hts (Cond.fieldLink RX3 39 "HeadGridModel" "above" "[J") (List.mem_of_getElem? (i := 3) rfl)) (fun _ h9 => h9) rfl dX3_greatest_37 ?_
        refine lv_iload hx hb dX3_greatest_40 (lv_at hl 0 rfl) ?_
        refine wa_lald hx hb hK hP (wM_10 cy ad us2 X) (t0 := 1) rfl (i := i0) (by omega) (by decide) dX3_greatest_42 ?_
        refine lv_aload_n hx hb dX3_greatest_43 rfl (lv_at hl 3 rfl) ?_
        refine va_get (D := dd) (ci := 5) (v := .ref (ad 11)) (C := RX3) (T := TX3) (N := 15) hx hb hts (fun _ h9 => List.mem_cons_of_mem _ (List.mem_append_left _ (List.mem_append_left _ (List.mem_append_right _ h9)))) hown hK hP 0 (wM_0 cy ad us2 X) rfl 13 (by decide) (hts (Cond.fieldLink RX3 42 "HeadGridModel" "by" "[J") (List.mem_of_getElem? (i := 2) rfl)) (fun _ h9 => h9) rfl dX3_greatest_44 ?_
        refine lv_iload hx hb dX3_greatest_47 (lv_at hl 0 rfl) ?_
        refine wa_lald hx hb hK hP (wM_11 cy ad us2 X) (t0 := 1) rfl (i := i0) (by omega) (by decide) dX3_greatest_49 ?_
        refine lv_ldiv hx hb dX3_greatest_50 (fun h9 => by rw [h9] at cA; exact absurd (Int64.le_refl 0) cA) ?_
        refine lv_lload_n hx hb dX3_greatest_51 rfl (lv_at hl 1 rfl) ?_
        refine wl_ge (tgt := 74) hx hb dX3_greatest_52 dX3_greatest_53 (by decide) (fun cQ => ?_) (fun cQ => ?_)
        · refine lv_lload_n hx hb dX3_greatest_74 rfl (lv_at hl 1 rfl) ?_
          refine lv_lstore_n (lv' := [(2, .long z), (4, .int (nI i0)), (1, .int (nI S0)), (0, .ref (ad 0))]) hx hb dX3_greatest_75 rfl hl (by decide) rfl (fun ls hl => ?_)
          refine lv_iinc (v := (nI (i0 + 1))) (lv' := [(4, .int (nI (i0 + 1))), (2, .long z), (1, .int (nI S0)), (0, .ref (ad 0))]) hx hb dX3_greatest_76 hl (k := 1) rfl (nI_1 _) (by decide) rfl (fun ls hl => ?_)
          refine lv_goto (tgt := 17) hx hb dX3_greatest_79 (by decide) ?_
          exact ihg (9 - (i0 + 1)) (i0 + 1, z) ls (by omega) ⟨rfl, (by omega), (by rw [gmF, ← hz, if_neg (fun h9 => absurd h9.2 (by rw [Int64.not_lt, ← (hAB i0 (by omega)).1, ← (hAB i0 (by omega)).2]; exact cQ))]), lv_sub hl [0, 1, 2, 3] rfl⟩
        · refine lv_aload_n hx hb dX3_greatest_56 rfl (lv_at hl 3 rfl) ?_
          refine va_get (D := dd) (ci := 5) (v := .ref (ad 10)) (C := RX3) (T := TX3) (N := 15) hx hb hts (fun _ h9 => List.mem_cons_of_mem _ (List.mem_append_left _ (List.mem_append_left _ (List.mem_append_right _ h9)))) hown hK hP 0 (wM_0 cy ad us2 X) rfl 12 (by decide) (hts (Cond.fieldLink RX3 39 "HeadGridModel" "above" "[J") (List.mem_of_getElem? (i := 3) rfl)) (fun _ h9 => h9) rfl dX3_greatest_57 ?_
          refine lv_iload hx hb dX3_greatest_60 (lv_at hl 0 rfl) ?_
          refine wa_lald hx hb hK hP (wM_10 cy ad us2 X) (t0 := 1) rfl (i := i0) (by omega) (by decide) dX3_greatest_62 ?_
          refine lv_aload_n hx hb dX3_greatest_63 rfl (lv_at hl 3 rfl) ?_
          refine va_get (D := dd) (ci := 5) (v := .ref (ad 11)) (C := RX3) (T := TX3) (N := 15) hx hb hts (fun _ h9 => List.mem_cons_of_mem _ (List.mem_append_left _ (List.mem_append_left _ (List.mem_append_right _ h9)))) hown hK hP 0 (wM_0 cy ad us2 X) rfl 13 (by decide) (hts (Cond.fieldLink RX3 42 "HeadGridModel" "by" "[J") (List.mem_of_getElem? (i := 2) rfl)) (fun _ h9 => h9) rfl dX3_greatest_64 ?_
          refine lv_iload hx hb dX3_greatest_67 (lv_at hl 0 rfl) ?_
          refine wa_lald hx hb hK hP (wM_11 cy ad us2 X) (t0 := 1) rfl (i := i0) (by omega) (by decide) dX3_greatest_69 ?_
          refine lv_ldiv hx hb dX3_greatest_70 (fun h9 => by rw [h9] at cA; exact absurd (Int64.le_refl 0) cA) ?_
          refine lv_goto (tgt := 75) hx hb dX3_greatest_71 (by decide) ?_
          refine lv_topl (fun x5 ex5 => ?_)
          refine lv_lstore_n (lv' := [(2, .long x5), (4, .int (nI i0)), (1, .int (nI S0)), (0, .ref (ad 0))]) hx hb dX3_greatest_75 rfl hl (by decide) rfl (fun ls hl => ?_)
          refine lv_iinc (v := (nI (i0 + 1))) (lv' := [(4, .int (nI (i0 + 1))), (2, .long x5), (1, .int (nI S0)), (0, .ref (ad 0))]) hx hb dX3_greatest_76 hl (k := 1) rfl (nI_1 _) (by decide) rfl (fun ls hl => ?_)
          refine lv_goto (tgt := 17) hx hb dX3_greatest_79 (by decide) ?_
          exact ihg (9 - (i0 + 1)) (i0 + 1, x5) ls (by omega) ⟨rfl, (by omega), (by rw [ex5, gmF, ← hz, if_pos ⟨by rw [← Int64.not_le, ← (hAB i0 (by omega)).2]; exact cA, by rw [← Int64.not_le, ← (hAB i0 (by omega)).1, ← (hAB i0 (by omega)).2]; exact cQ⟩, (hAB i0 (by omega)).1, (hAB i0 (by omega)).2]), lv_sub hl [0, 1, 2, 3] rfl⟩
  · refine lv_iconst (v := -1) hx hb dX3_greatest_8 i32_m1 ?_
    exact W.iret (v := (-1)) hx hb hr (fun t ht hW => ⟨⟨(-1), us2, rfl, ⟨by unfold grU; rw [cL, if_neg (by decide)], hfA⟩, by rw [ht]; exact hP, va_K.moved hW.alike hK, hD⟩, hS.F ht⟩) hS.2.2 dX3_greatest_9
theorem hd_X3_greatestRate : yX3_greatestRate.cls = RX3 ∧ yX3_greatestRate.cls ≠ "java/lang/invoke/MethodHandle" ∧ yX3_greatestRate.cls ≠ "java/lang/invoke/VarHandle" ∧ (parseMethodDescriptor yX3_greatestRate.desc).map (fun d => d.parameters.length) = some 1 := by decide +kernel
set_option maxHeartbeats 4000000 in
set_option maxRecDepth 100000 in
/-- greatestRate(cell) -/
theorem c_X3_greatestRate (l : Launch) (dd : va_G) (cy : Nat → ClassId) (ad : Nat → Nat) (X : va_W) (u : MS) (sz : Nat) (cell : Int32) (hg : GM (u.1 1)) : Met l yX3_greatestRate wsX3_greatestRate ({ frames := 4, cells := 0, slots := 0, locals := 94 }) (va_Pc [.ref (ad 0), .int cell] (wrW dd cy (wM cy ad u ++ X) sz)) (va_Qi (fun r u9 => u9.2.2.2.2.1 = nI (if inR cell (nI 0) (nI 8) then (if lsM u then 2 else 0) else 1) ∧ u9.1 = u.1 ∧ u9.2.1 = u.2.1 ∧ u9.2.2.2.1 = u.2.2.2.1 ∧ ((if inR cell (nI 0) (nI 8) then (if lsM u then 2 else 0) else 1) = 0 → r = grU (cn (u.1 1)) (2 ^ cell.toNatClampNeg))) (wB dd cy (fun u9 : MS => wM cy ad u9 ++ X) (va_A (wM cy ad u ++ X) sz)) (va_A (wM cy ad u ++ X) sz)) 0 0 (va_A (wM cy ad u ++ X) sz) := by
  refine Met.ofW (cc := cX3_greatestRate) (maxL := 2) (ret := (some .int)) (by decide) rfl ?_
  intro p e s m args below meth c s₁ B hml hv
  obtain ⟨rfl, hsz, hP, hK, hD0⟩ := hv
  have hx := B.exec
  have hb := B.bytes
  have hr := B.returns
  have hts := atoms_spec (ws := wsX3_greatestRate) B.pre
  have hown : s.vm.findClass RX3 = some m.cls := findClass_of_methodNamed B.named
  have hlocks := B.notSynchronized
  subst hsz
  have hD := hD0.self (sz := s.heap.size)
  generalize hAe : va_A (wM cy ad u ++ X) s.heap.size = A at hD ⊢
  have hA : ∀ q : Nat, s.heap.size ≤ q → A q := fun q h => by rw [← hAe]; exact Or.inr h
  have hS : va_S A s.heap s.heap [] := va_S.rf
  have hl := lv_entry ([.ref (ad 0), .int cell]) (n := 2) (Nat.le_of_ble_eq_true rfl)
  rw [lg_entry_eq]
  generalize (lg_sl ([.ref (ad 0), .int cell]) ++ List.replicate (2 - (lg_sl ([.ref (ad 0), .int cell])).length) Slot.unset).toArray = ls at hl ⊢
  have hl : lv_has ls 2 [(0, .ref (ad 0)), (1, .int cell)] := hl
  refine lv_aload_n hx hb dX3_greatestRate_0 rfl (lv_at hl 0 rfl) ?_
  refine lv_iload_n hx hb dX3_greatestRate_1 rfl (lv_at hl 1 rfl) ?_
  refine vp_callSi (va_runS (As := [.int cell]) (rest := [.ref (ad 0)]) ⟨hx, hb, hml, hown, hts⟩ (c_X3_isCell l cell) (va_cwS 1 hts gX3_greatestRate_X3_isCell rfl rfl rfl hd_X3_isCell ⟨Nat.le_of_ble_eq_true rfl, Nat.le_of_ble_eq_true rfl⟩) ⟨fun a U g mk q => q, fun U hU hW => ⟨rfl, trivial⟩⟩ rfl rfl hl.1 rfl (lv_room (Nat.le_of_ble_eq_true rfl)) dX3_greatestRate_2 ⟨Nat.le_of_ble_eq_true rfl, Nat.le_of_ble_eq_true rfl⟩).run (fun r1 hr1 => ?_)
  have hr1 : r1 = bI (inR cell (nI 0) (nI 8)) := hr1
  subst hr1
  refine wb_if_ne (tgt := 12) hx hb dX3_greatestRate_5 (by decide) (fun cC => ?_) (fun cC => ?_)
  · obtain ⟨c0, hc0, ec0⟩ := inR_nat (n := 8) (by decide) cC
    have hl : lv_has ls 2 [(0, .ref (ad 0)), (1, .int (nI c0))] := by rw [← ec0]; exact hl
    refine lv_aload_n hx hb dX3_greatestRate_12 rfl (lv_at hl 0 rfl) ?_
    have g5 : GM (u.1 1) := by rw [show u.1 = u.1 from rfl]; exact hg
    refine wc_calli (va_runV (As := []) (rest := [.ref (ad 0)]) ⟨hx, hb, hml, hown, hts⟩ (c_X3_solves l dd cy ad X u _ (fun q9 => (g5 ((lsM_iff u).mp q9)).1)) (cwV 0 hts gX3_greatestRate_X3_solves rfl rfl rfl hd_X3_solves ⟨Nat.le_of_ble_eq_true rfl, Nat.le_of_ble_eq_true rfl⟩) (wrW_V hP hK hD (wM_0 cy ad u X) rfl) rfl rfl hl.1 rfl (lv_room (Nat.le_of_ble_eq_true rfl)) dX3_greatestRate_13 ⟨Nat.le_of_ble_eq_true rfl, Nat.le_of_ble_eq_true rfl⟩) hD hS hA (fun r2 us3 H locs w4 hP hD hS => ?_)
    have hls9 : lsM u = lsM u := lsM_congr rfl
    rcases Bool.eq_false_or_eq_true (lsM u) with hlo | hlo
    · obtain ⟨hr2, e9⟩ := w4.1 (hls9.trans hlo)
      subst hr2
      rw [e9] at hP hD
      refine wn_if_ne (tgt := 23) hx hb dX3_greatestRate_16 (by decide) (by omega) (fun c6 => (by first | exact absurd c6 (by decide) | exact absurd (by decide) c6)) (fun _ => ?_)
      refine lv_iconst (v := nI 2) hx hb dX3_greatestRate_19 (by decide) ?_
      refine lv_goto (tgt := 24) hx hb dX3_greatestRate_20 (by decide) ?_
      refine va_put (D := dd) (ci := 5) (v := .int (nI 2)) (ty := .int) (C := RX3) (T := TX3) (N := 15) hx hb hts (fun _ h9 => List.mem_cons_of_mem _ (List.mem_append_left _ (List.mem_append_left _ (List.mem_append_right _ h9)))) tyX3 tyX3_ok nmX3 hown hK hP hD hS 0 (wM_0 cy ad u X) rfl 5 (by decide) (hts (Cond.fieldLink RX3 45 "HeadGridModel" "thrown" "I") (List.mem_of_getElem? (i := 1) rfl)) (fun _ h9 => h9) rfl (tyX3_ok 5 (by decide)) rfl rfl (Nat.le_of_ble_eq_true rfl) dX3_greatestRate_24 (fun H locs hP hD hS => ?_)
      have hP : va_P dd vwCl (wM cy ad (u.1, u.2.1, u.2.2.1, u.2.2.2.1, (nI 2), u.2.2.2.2.2) ++ X) H := hP
      have hD : va_D A (wM cy ad (u.1, u.2.1, u.2.2.1, u.2.2.2.1, (nI 2), u.2.2.2.2.2) ++ X) := hD
      obtain ⟨us7, hus7⟩ : ∃ z9z : MS, z9z = (u.1, u.2.1, u.2.2.1, u.2.2.2.1, (nI 2), u.2.2.2.2.2) := ⟨_, rfl⟩
      rw [← hus7] at hP hD
      have pus7_1 : us7.1 = u.1 := by rw [hus7]
      have pus7_21 : us7.2.1 = u.2.1 := by rw [hus7]
      have pus7_221 : us7.2.2.1 = u.2.2.1 := by rw [hus7]
      have pus7_kept : us7.2.2.2.1 = u.2.2.2.1 := by rw [hus7]
      have h_thrown : (nI 2) = us7.2.2.2.2.1 := by rw [hus7]
      have pus7_whole : us7.2.2.2.2.2.1 = u.2.2.2.2.2.1 := by rw [hus7]
      have pus7_hash : us7.2.2.2.2.2.2 = u.2.2.2.2.2.2 := by rw [hus7]
      have qus7_1 : us7.1 = u.1 := pus7_1.trans rfl
      have qus7_21 : us7.2.1 = u.2.1 := pus7_21.trans rfl
      have qus7_k : us7.2.2.2.1 = u.2.2.2.1 := pus7_kept.trans rfl
      refine lv_aload_n hx hb dX3_greatestRate_27 rfl (lv_at hl 0 rfl) ?_
      refine va_get (D := dd) (ci := 5) (v := .int (nI 2)) (C := RX3) (T := TX3) (N := 15) hx hb hts (fun _ h9 => List.mem_cons_of_mem _ (List.mem_append_left _ (List.mem_append_left _ (List.mem_append_right _ h9)))) hown hK hP 0 (wM_0 cy ad us7 X) rfl 5 (by decide) (hts (Cond.fieldLink RX3 45 "HeadGridModel" "thrown" "I") (List.mem_of_getElem? (i := 1) rfl)) (fun _ h9 => h9) (by rw [h_thrown]; rfl) dX3_greatestRate_28 ?_
      refine wn_if_eq (tgt := 38) hx hb dX3_greatestRate_31 (by decide) (by omega) (fun c8 => (by first | exact absurd c8 (by decide) | exact absurd (by decide) c8)) (fun _ => ?_)
      refine lv_iconst (v := nI 0) hx hb dX3_greatestRate_34 (by decide) ?_
      refine lv_goto (tgt := 45) hx hb dX3_greatestRate_35 (by decide) ?_
      exact W.iret (v := (nI 0)) hx hb hr (fun t ht hW => ⟨⟨(nI 0), us7, rfl, (by rw [cC, hlo]; exact ⟨h_thrown.symm, qus7_1, qus7_21, qus7_k, fun q9 => absurd q9 (by decide)⟩), by rw [ht]; exact hP, va_K.moved hW.alike hK, hD⟩, hS.F ht⟩) hS.2.2 dX3_greatestRate_45
    · obtain ⟨hr2, hfs, hth, hhs, hsv⟩ := w4.2 (hls9.trans hlo)
      subst hr2
      have hf1 : us3.1 = u.1 := hfs.1.trans rfl
      have hsv : svd (u.1 1) us3 := hsv
      have hf21 : us3.2.1 = u.2.1 := hfs.2.1.trans rfl
      have hfk : us3.2.2.2.1 = u.2.2.2.1 := hfs.2.2.trans rfl
      refine wn_if_ne (tgt := 23) hx hb dX3_greatestRate_16 (by decide) (by omega) (fun _ => ?_) (fun c9 => (by first | exact absurd (by decide) c9 | exact absurd c9 (by decide)))
      refine lv_iconst (v := nI 0) hx hb dX3_greatestRate_23 (by decide) ?_
      refine va_put (D := dd) (ci := 5) (v := .int (nI 0)) (ty := .int) (C := RX3) (T := TX3) (N := 15) hx hb hts (fun _ h9 => List.mem_cons_of_mem _ (List.mem_append_left _ (List.mem_append_left _ (List.mem_append_right _ h9)))) tyX3 tyX3_ok nmX3 hown hK hP hD hS 0 (wM_0 cy ad us3 X) rfl 5 (by decide) (hts (Cond.fieldLink RX3 45 "HeadGridModel" "thrown" "I") (List.mem_of_getElem? (i := 1) rfl)) (fun _ h9 => h9) rfl (tyX3_ok 5 (by decide)) rfl rfl (Nat.le_of_ble_eq_true rfl) dX3_greatestRate_24 (fun H locs hP hD hS => ?_)
      have hP : va_P dd vwCl (wM cy ad (us3.1, us3.2.1, us3.2.2.1, us3.2.2.2.1, (nI 0), us3.2.2.2.2.2) ++ X) H := hP
      have hD : va_D A (wM cy ad (us3.1, us3.2.1, us3.2.2.1, us3.2.2.2.1, (nI 0), us3.2.2.2.2.2) ++ X) := hD
      obtain ⟨us10, hus10⟩ : ∃ z9z : MS, z9z = (us3.1, us3.2.1, us3.2.2.1, us3.2.2.2.1, (nI 0), us3.2.2.2.2.2) := ⟨_, rfl⟩
      rw [← hus10] at hP hD
      have pus10_1 : us10.1 = us3.1 := by rw [hus10]
      have pus10_21 : us10.2.1 = us3.2.1 := by rw [hus10]
      have pus10_221 : us10.2.2.1 = us3.2.2.1 := by rw [hus10]
      have pus10_kept : us10.2.2.2.1 = us3.2.2.2.1 := by rw [hus10]
      have h_thrown : (nI 0) = us10.2.2.2.2.1 := by rw [hus10]
      have pus10_whole : us10.2.2.2.2.2.1 = us3.2.2.2.2.2.1 := by rw [hus10]
      have pus10_hash : us10.2.2.2.2.2.2 = us3.2.2.2.2.2.2 := by rw [hus10]
      have qus10_1 : us10.1 = u.1 := pus10_1.trans hf1
      have qus10_21 : us10.2.1 = u.2.1 := pus10_21.trans hf21
      have qus10_k : us10.2.2.2.1 = u.2.2.2.1 := pus10_kept.trans hfk
      refine lv_aload_n hx hb dX3_greatestRate_27 rfl (lv_at hl 0 rfl) ?_
      refine va_get (D := dd) (ci := 5) (v := .int (nI 0)) (C := RX3) (T := TX3) (N := 15) hx hb hts (fun _ h9 => List.mem_cons_of_mem _ (List.mem_append_left _ (List.mem_append_left _ (List.mem_append_right _ h9)))) hown hK hP 0 (wM_0 cy ad us10 X) rfl 5 (by decide) (hts (Cond.fieldLink RX3 45 "HeadGridModel" "thrown" "I") (List.mem_of_getElem? (i := 1) rfl)) (fun _ h9 => h9) (by rw [h_thrown]; rfl) dX3_greatestRate_28 ?_
      refine wn_if_eq (tgt := 38) hx hb dX3_greatestRate_31 (by decide) (by omega) (fun _ => ?_) (fun c11 => (by first | exact absurd (by decide) c11 | exact absurd c11 (by decide)))
      refine lv_aload_n hx hb dX3_greatestRate_38 rfl (lv_at hl 0 rfl) ?_
      refine lv_iconst (v := nI 1) hx hb dX3_greatestRate_39 (by decide) ?_
      refine lv_iload_n hx hb dX3_greatestRate_40 rfl (lv_at hl 1 rfl) ?_
      refine lv_ishl hx hb dX3_greatestRate_41 ?_
      refine lv_topi (fun y12 ey12 => ?_)
      have ey12 : y12 = (nI (2 ^ c0)) := ey12.trans (shl9 c0 (by omega))
      subst ey12
      refine wc_calli (va_runV (As := [.int (nI (2 ^ c0))]) (rest := []) ⟨hx, hb, hml, hown, hts⟩ (c_X3_greatest l dd cy ad X us10 _ (2 ^ c0) (by have := Nat.pow_le_pow_right (show 0 < 2 by decide) (show c0 ≤ 8 by omega); omega)) (cwV 1 hts gX3_greatestRate_X3_greatest rfl rfl rfl hd_X3_greatest ⟨Nat.le_of_ble_eq_true rfl, Nat.le_of_ble_eq_true rfl⟩) (wrW_V hP hK hD (wM_0 cy ad us10 X) rfl) rfl rfl hl.1 rfl (lv_room (Nat.le_of_ble_eq_true rfl)) dX3_greatestRate_42 ⟨Nat.le_of_ble_eq_true rfl, Nat.le_of_ble_eq_true rfl⟩) hD hS hA (fun r13 us14 H locs w15 hP hD hS => ?_)
      obtain ⟨hr13, hfA⟩ := w15
      subst hr13
      have h_thrown : nI 0 = us14.2.2.2.2.1 := by rw [hfA.2.2.1]; exact h_thrown
      have zus14_1 : us14.1 = u.1 := (show us14.1 = us10.1 from hfA.1).trans qus10_1
      have zus14_21 : us14.2.1 = u.2.1 := (show us14.2.1 = us10.2.1 from hfA.2.1).trans qus10_21
      have zus14_k : us14.2.2.2.1 = u.2.2.2.1 := (show us14.2.2.2.1 = us10.2.2.2.1 from (by rw [hfA.2.2.1])).trans qus10_k
      exact W.iret (v := grU us10 (2 ^ c0)) hx hb hr (fun t ht hW => ⟨⟨grU us10 (2 ^ c0), us14, rfl, (by rw [cC, hlo]; exact ⟨h_thrown.symm, zus14_1, zus14_21, zus14_k, fun _ => by rw [sv_gr (now := u.1 1) ⟨by rw [pus10_whole]; exact hsv.1, fun a9 ha9 b9 hb9 => by rw [pus10_221]; exact hsv.2.1 a9 ha9 b9 hb9, fun a9 ha9 => by rw [pus10_221]; exact hsv.2.2 a9 ha9⟩ (congrFun qus10_1 1), ec0, nI_clamp (by omega)]⟩), by rw [ht]; exact hP, va_K.moved hW.alike hK, hD⟩, hS.F ht⟩) hS.2.2 dX3_greatestRate_45
  · refine lv_iconst (v := nI 1) hx hb dX3_greatestRate_8 (by decide) ?_
    refine lv_goto (tgt := 24) hx hb dX3_greatestRate_9 (by decide) ?_
    refine va_put (D := dd) (ci := 5) (v := .int (nI 1)) (ty := .int) (C := RX3) (T := TX3) (N := 15) hx hb hts (fun _ h9 => List.mem_cons_of_mem _ (List.mem_append_left _ (List.mem_append_left _ (List.mem_append_right _ h9)))) tyX3 tyX3_ok nmX3 hown hK hP hD hS 0 (wM_0 cy ad u X) rfl 5 (by decide) (hts (Cond.fieldLink RX3 45 "HeadGridModel" "thrown" "I") (List.mem_of_getElem? (i := 1) rfl)) (fun _ h9 => h9) rfl (tyX3_ok 5 (by decide)) rfl rfl (Nat.le_of_ble_eq_true rfl) dX3_greatestRate_24 (fun H locs hP hD hS => ?_)
    have hP : va_P dd vwCl (wM cy ad (u.1, u.2.1, u.2.2.1, u.2.2.2.1, (nI 1), u.2.2.2.2.2) ++ X) H := hP
    have hD : va_D A (wM cy ad (u.1, u.2.1, u.2.2.1, u.2.2.2.1, (nI 1), u.2.2.2.2.2) ++ X) := hD
    obtain ⟨us16, hus16⟩ : ∃ z9z : MS, z9z = (u.1, u.2.1, u.2.2.1, u.2.2.2.1, (nI 1), u.2.2.2.2.2) := ⟨_, rfl⟩
    rw [← hus16] at hP hD
    have pus16_1 : us16.1 = u.1 := by rw [hus16]
    have pus16_21 : us16.2.1 = u.2.1 := by rw [hus16]
    have pus16_221 : us16.2.2.1 = u.2.2.1 := by rw [hus16]
    have pus16_kept : us16.2.2.2.1 = u.2.2.2.1 := by rw [hus16]
    have h_thrown : (nI 1) = us16.2.2.2.2.1 := by rw [hus16]
    have pus16_whole : us16.2.2.2.2.2.1 = u.2.2.2.2.2.1 := by rw [hus16]
    have pus16_hash : us16.2.2.2.2.2.2 = u.2.2.2.2.2.2 := by rw [hus16]
    have qus16_1 : us16.1 = u.1 := pus16_1.trans rfl
    have qus16_21 : us16.2.1 = u.2.1 := pus16_21.trans rfl
    have qus16_k : us16.2.2.2.1 = u.2.2.2.1 := pus16_kept.trans rfl
    refine lv_aload_n hx hb dX3_greatestRate_27 rfl (lv_at hl 0 rfl) ?_
    refine va_get (D := dd) (ci := 5) (v := .int (nI 1)) (C := RX3) (T := TX3) (N := 15) hx hb hts (fun _ h9 => List.mem_cons_of_mem _ (List.mem_append_left _ (List.mem_append_left _ (List.mem_append_right _ h9)))) hown hK hP 0 (wM_0 cy ad us16 X) rfl 5 (by decide) (hts (Cond.fieldLink RX3 45 "HeadGridModel" "thrown" "I") (List.mem_of_getElem? (i := 1) rfl)) (fun _ h9 => h9) (by rw [h_thrown]; rfl) dX3_greatestRate_28 ?_
    refine wn_if_eq (tgt := 38) hx hb dX3_greatestRate_31 (by decide) (by omega) (fun c17 => (by first | exact absurd c17 (by decide) | exact absurd (by decide) c17)) (fun _ => ?_)
    refine lv_iconst (v := nI 0) hx hb dX3_greatestRate_34 (by decide) ?_
    refine lv_goto (tgt := 45) hx hb dX3_greatestRate_35 (by decide) ?_
    exact W.iret (v := (nI 0)) hx hb hr (fun t ht hW => ⟨⟨(nI 0), us16, rfl, (by rw [cC]; exact ⟨h_thrown.symm, qus16_1, qus16_21, qus16_k, fun q9 => absurd q9 (by simp)⟩), by rw [ht]; exact hP, va_K.moved hW.alike hK, hD⟩, hS.F ht⟩) hS.2.2 dX3_greatestRate_45
theorem hd_X3_greatestEqual : yX3_greatestEqual.cls = RX3 ∧ yX3_greatestEqual.cls ≠ "java/lang/invoke/MethodHandle" ∧ yX3_greatestEqual.cls ≠ "java/lang/invoke/VarHandle" ∧ (parseMethodDescriptor yX3_greatestEqual.desc).map (fun d => d.parameters.length) = some 1 := by decide +kernel
set_option maxHeartbeats 4000000 in
set_option maxRecDepth 100000 in
/-- greatestEqual(cells) -/
theorem c_X3_greatestEqual (l : Launch) (dd : va_G) (cy : Nat → ClassId) (ad : Nat → Nat) (X : va_W) (u : MS) (sz : Nat) (cells : Int32) (hg : GM (u.1 1)) : Met l yX3_greatestEqual wsX3_greatestEqual ({ frames := 4, cells := 0, slots := 0, locals := 94 }) (va_Pc [.ref (ad 0), .int cells] (wrW dd cy (wM cy ad u ++ X) sz)) (va_Qi (fun r u9 => u9.2.2.2.2.1 = nI (if inR cells (nI 1) (nI 511) then (if lsM u then 2 else 0) else 1) ∧ u9.1 = u.1 ∧ u9.2.1 = u.2.1 ∧ u9.2.2.2.1 = u.2.2.2.1 ∧ ((if inR cells (nI 1) (nI 511) then (if lsM u then 2 else 0) else 1) = 0 → r = grU (cn (u.1 1)) cells.toNatClampNeg)) (wB dd cy (fun u9 : MS => wM cy ad u9 ++ X) (va_A (wM cy ad u ++ X) sz)) (va_A (wM cy ad u ++ X) sz)) 0 0 (va_A (wM cy ad u ++ X) sz) := by
  refine Met.ofW (cc := cX3_greatestEqual) (maxL := 2) (ret := (some .int)) (by decide) rfl ?_
  intro p e s m args below meth c s₁ B hml hv
  obtain ⟨rfl, hsz, hP, hK, hD0⟩ := hv
  have hx := B.exec
  have hb := B.bytes
  have hr := B.returns
  have hts := atoms_spec (ws := wsX3_greatestEqual) B.pre
  have hown : s.vm.findClass RX3 = some m.cls := findClass_of_methodNamed B.named
  have hlocks := B.notSynchronized
  subst hsz
  have hD := hD0.self (sz := s.heap.size)
  generalize hAe : va_A (wM cy ad u ++ X) s.heap.size = A at hD ⊢
  have hA : ∀ q : Nat, s.heap.size ≤ q → A q := fun q h => by rw [← hAe]; exact Or.inr h
  have hS : va_S A s.heap s.heap [] := va_S.rf
  have hl := lv_entry ([.ref (ad 0), .int cells]) (n := 2) (Nat.le_of_ble_eq_true rfl)
  rw [lg_entry_eq]
  generalize (lg_sl ([.ref (ad 0), .int cells]) ++ List.replicate (2 - (lg_sl ([.ref (ad 0), .int cells])).length) Slot.unset).toArray = ls at hl ⊢
  have hl : lv_has ls 2 [(0, .ref (ad 0)), (1, .int cells)] := hl
  refine lv_aload_n hx hb dX3_greatestEqual_0 rfl (lv_at hl 0 rfl) ?_
  refine lv_iload_n hx hb dX3_greatestEqual_1 rfl (lv_at hl 1 rfl) ?_
  refine lv_iconst (v := nI 1) hx hb dX3_greatestEqual_2 (by decide) ?_
  refine lv_sipush (v := nI 511) hx hb dX3_greatestEqual_3 (by decide) ?_
  refine vp_callSi (va_runS (As := [.int cells, .int (nI 1), .int (nI 511)]) (rest := [.ref (ad 0)]) ⟨hx, hb, hml, hown, hts⟩ (c_X3_in l cells (nI 1) (nI 511)) (va_cwS 3 hts gX3_greatestEqual_X3_in rfl rfl rfl hd_X3_in ⟨Nat.le_of_ble_eq_true rfl, Nat.le_of_ble_eq_true rfl⟩) ⟨fun a U g mk q => q, fun U hU hW => ⟨rfl, trivial⟩⟩ rfl rfl hl.1 rfl (lv_room (Nat.le_of_ble_eq_true rfl)) dX3_greatestEqual_6 ⟨Nat.le_of_ble_eq_true rfl, Nat.le_of_ble_eq_true rfl⟩).run (fun r1 hr1 => ?_)
  have hr1 : r1 = bI (inR cells (nI 1) (nI 511)) := hr1
  subst hr1
  refine wb_if_ne (tgt := 16) hx hb dX3_greatestEqual_9 (by decide) (fun cC => ?_) (fun cC => ?_)
  · obtain ⟨c0, hc1, hc0, ec0⟩ := inR_nat1 (n := 511) (by decide) (by decide) cC
    have hl : lv_has ls 2 [(0, .ref (ad 0)), (1, .int (nI c0))] := by rw [← ec0]; exact hl
    refine lv_aload_n hx hb dX3_greatestEqual_16 rfl (lv_at hl 0 rfl) ?_
    have g5 : GM (u.1 1) := by rw [show u.1 = u.1 from rfl]; exact hg
    refine wc_calli (va_runV (As := []) (rest := [.ref (ad 0)]) ⟨hx, hb, hml, hown, hts⟩ (c_X3_solves l dd cy ad X u _ (fun q9 => (g5 ((lsM_iff u).mp q9)).1)) (cwV 0 hts gX3_greatestEqual_X3_solves rfl rfl rfl hd_X3_solves ⟨Nat.le_of_ble_eq_true rfl, Nat.le_of_ble_eq_true rfl⟩) (wrW_V hP hK hD (wM_0 cy ad u X) rfl) rfl rfl hl.1 rfl (lv_room (Nat.le_of_ble_eq_true rfl)) dX3_greatestEqual_17 ⟨Nat.le_of_ble_eq_true rfl, Nat.le_of_ble_eq_true rfl⟩) hD hS hA (fun r2 us3 H locs w4 hP hD hS => ?_)
    have hls9 : lsM u = lsM u := lsM_congr rfl
    rcases Bool.eq_false_or_eq_true (lsM u) with hlo | hlo
    · obtain ⟨hr2, e9⟩ := w4.1 (hls9.trans hlo)
      subst hr2
      rw [e9] at hP hD
      refine wn_if_ne (tgt := 27) hx hb dX3_greatestEqual_20 (by decide) (by omega) (fun c6 => (by first | exact absurd c6 (by decide) | exact absurd (by decide) c6)) (fun _ => ?_)
      refine lv_iconst (v := nI 2) hx hb dX3_greatestEqual_23 (by decide) ?_
      refine lv_goto (tgt := 28) hx hb dX3_greatestEqual_24 (by decide) ?_
      refine va_put (D := dd) (ci := 5) (v := .int (nI 2)) (ty := .int) (C := RX3) (T := TX3) (N := 15) hx hb hts (fun _ h9 => List.mem_cons_of_mem _ (List.mem_append_left _ (List.mem_append_left _ (List.mem_append_right _ h9)))) tyX3 tyX3_ok nmX3 hown hK hP hD hS 0 (wM_0 cy ad u X) rfl 5 (by decide) (hts (Cond.fieldLink RX3 45 "HeadGridModel" "thrown" "I") (List.mem_of_getElem? (i := 1) rfl)) (fun _ h9 => h9) rfl (tyX3_ok 5 (by decide)) rfl rfl (Nat.le_of_ble_eq_true rfl) dX3_greatestEqual_28 (fun H locs hP hD hS => ?_)
      have hP : va_P dd vwCl (wM cy ad (u.1, u.2.1, u.2.2.1, u.2.2.2.1, (nI 2), u.2.2.2.2.2) ++ X) H := hP
      have hD : va_D A (wM cy ad (u.1, u.2.1, u.2.2.1, u.2.2.2.1, (nI 2), u.2.2.2.2.2) ++ X) := hD
      obtain ⟨us7, hus7⟩ : ∃ z9z : MS, z9z = (u.1, u.2.1, u.2.2.1, u.2.2.2.1, (nI 2), u.2.2.2.2.2) := ⟨_, rfl⟩
      rw [← hus7] at hP hD
      have pus7_1 : us7.1 = u.1 := by rw [hus7]
      have pus7_21 : us7.2.1 = u.2.1 := by rw [hus7]
      have pus7_221 : us7.2.2.1 = u.2.2.1 := by rw [hus7]
      have pus7_kept : us7.2.2.2.1 = u.2.2.2.1 := by rw [hus7]
      have h_thrown : (nI 2) = us7.2.2.2.2.1 := by rw [hus7]
      have pus7_whole : us7.2.2.2.2.2.1 = u.2.2.2.2.2.1 := by rw [hus7]
      have pus7_hash : us7.2.2.2.2.2.2 = u.2.2.2.2.2.2 := by rw [hus7]
      have qus7_1 : us7.1 = u.1 := pus7_1.trans rfl
      have qus7_21 : us7.2.1 = u.2.1 := pus7_21.trans rfl
      have qus7_k : us7.2.2.2.1 = u.2.2.2.1 := pus7_kept.trans rfl
      refine lv_aload_n hx hb dX3_greatestEqual_31 rfl (lv_at hl 0 rfl) ?_
      refine va_get (D := dd) (ci := 5) (v := .int (nI 2)) (C := RX3) (T := TX3) (N := 15) hx hb hts (fun _ h9 => List.mem_cons_of_mem _ (List.mem_append_left _ (List.mem_append_left _ (List.mem_append_right _ h9)))) hown hK hP 0 (wM_0 cy ad us7 X) rfl 5 (by decide) (hts (Cond.fieldLink RX3 45 "HeadGridModel" "thrown" "I") (List.mem_of_getElem? (i := 1) rfl)) (fun _ h9 => h9) (by rw [h_thrown]; rfl) dX3_greatestEqual_32 ?_
      refine wn_if_eq (tgt := 42) hx hb dX3_greatestEqual_35 (by decide) (by omega) (fun c8 => (by first | exact absurd c8 (by decide) | exact absurd (by decide) c8)) (fun _ => ?_)
      refine lv_iconst (v := nI 0) hx hb dX3_greatestEqual_38 (by decide) ?_
      refine lv_goto (tgt := 47) hx hb dX3_greatestEqual_39 (by decide) ?_
      exact W.iret (v := (nI 0)) hx hb hr (fun t ht hW => ⟨⟨(nI 0), us7, rfl, (by rw [cC, hlo]; exact ⟨h_thrown.symm, qus7_1, qus7_21, qus7_k, fun q9 => absurd q9 (by decide)⟩), by rw [ht]; exact hP, va_K.moved hW.alike hK, hD⟩, hS.F ht⟩) hS.2.2 dX3_greatestEqual_47
    · obtain ⟨hr2, hfs, hth, hhs, hsv⟩ := w4.2 (hls9.trans hlo)
      subst hr2
      have hf1 : us3.1 = u.1 := hfs.1.trans rfl
      have hsv : svd (u.1 1) us3 := hsv
      have hf21 : us3.2.1 = u.2.1 := hfs.2.1.trans rfl
      have hfk : us3.2.2.2.1 = u.2.2.2.1 := hfs.2.2.trans rfl
      refine wn_if_ne (tgt := 27) hx hb dX3_greatestEqual_20 (by decide) (by omega) (fun _ => ?_) (fun c9 => (by first | exact absurd (by decide) c9 | exact absurd c9 (by decide)))
      refine lv_iconst (v := nI 0) hx hb dX3_greatestEqual_27 (by decide) ?_
      refine va_put (D := dd) (ci := 5) (v := .int (nI 0)) (ty := .int) (C := RX3) (T := TX3) (N := 15) hx hb hts (fun _ h9 => List.mem_cons_of_mem _ (List.mem_append_left _ (List.mem_append_left _ (List.mem_append_right _ h9)))) tyX3 tyX3_ok nmX3 hown hK hP hD hS 0 (wM_0 cy ad us3 X) rfl 5 (by decide) (hts (Cond.fieldLink RX3 45 "HeadGridModel" "thrown" "I") (List.mem_of_getElem? (i := 1) rfl)) (fun _ h9 => h9) rfl (tyX3_ok 5 (by decide)) rfl rfl (Nat.le_of_ble_eq_true rfl) dX3_greatestEqual_28 (fun H locs hP hD hS => ?_)
      have hP : va_P dd vwCl (wM cy ad (us3.1, us3.2.1, us3.2.2.1, us3.2.2.2.1, (nI 0), us3.2.2.2.2.2) ++ X) H := hP
      have hD : va_D A (wM cy ad (us3.1, us3.2.1, us3.2.2.1, us3.2.2.2.1, (nI 0), us3.2.2.2.2.2) ++ X) := hD
      obtain ⟨us10, hus10⟩ : ∃ z9z : MS, z9z = (us3.1, us3.2.1, us3.2.2.1, us3.2.2.2.1, (nI 0), us3.2.2.2.2.2) := ⟨_, rfl⟩
      rw [← hus10] at hP hD
      have pus10_1 : us10.1 = us3.1 := by rw [hus10]
      have pus10_21 : us10.2.1 = us3.2.1 := by rw [hus10]
      have pus10_221 : us10.2.2.1 = us3.2.2.1 := by rw [hus10]
      have pus10_kept : us10.2.2.2.1 = us3.2.2.2.1 := by rw [hus10]
      have h_thrown : (nI 0) = us10.2.2.2.2.1 := by rw [hus10]
      have pus10_whole : us10.2.2.2.2.2.1 = us3.2.2.2.2.2.1 := by rw [hus10]
      have pus10_hash : us10.2.2.2.2.2.2 = us3.2.2.2.2.2.2 := by rw [hus10]
      have qus10_1 : us10.1 = u.1 := pus10_1.trans hf1
      have qus10_21 : us10.2.1 = u.2.1 := pus10_21.trans hf21
      have qus10_k : us10.2.2.2.1 = u.2.2.2.1 := pus10_kept.trans hfk
      refine lv_aload_n hx hb dX3_greatestEqual_31 rfl (lv_at hl 0 rfl) ?_
      refine va_get (D := dd) (ci := 5) (v := .int (nI 0)) (C := RX3) (T := TX3) (N := 15) hx hb hts (fun _ h9 => List.mem_cons_of_mem _ (List.mem_append_left _ (List.mem_append_left _ (List.mem_append_right _ h9)))) hown hK hP 0 (wM_0 cy ad us10 X) rfl 5 (by decide) (hts (Cond.fieldLink RX3 45 "HeadGridModel" "thrown" "I") (List.mem_of_getElem? (i := 1) rfl)) (fun _ h9 => h9) (by rw [h_thrown]; rfl) dX3_greatestEqual_32 ?_
      refine wn_if_eq (tgt := 42) hx hb dX3_greatestEqual_35 (by decide) (by omega) (fun _ => ?_) (fun c11 => (by first | exact absurd (by decide) c11 | exact absurd c11 (by decide)))
      refine lv_aload_n hx hb dX3_greatestEqual_42 rfl (lv_at hl 0 rfl) ?_
      refine lv_iload_n hx hb dX3_greatestEqual_43 rfl (lv_at hl 1 rfl) ?_
      refine wc_calli (va_runV (As := [.int (nI c0)]) (rest := []) ⟨hx, hb, hml, hown, hts⟩ (c_X3_greatest l dd cy ad X us10 _ c0 (by omega)) (cwV 1 hts gX3_greatestEqual_X3_greatest rfl rfl rfl hd_X3_greatest ⟨Nat.le_of_ble_eq_true rfl, Nat.le_of_ble_eq_true rfl⟩) (wrW_V hP hK hD (wM_0 cy ad us10 X) rfl) rfl rfl hl.1 rfl (lv_room (Nat.le_of_ble_eq_true rfl)) dX3_greatestEqual_44 ⟨Nat.le_of_ble_eq_true rfl, Nat.le_of_ble_eq_true rfl⟩) hD hS hA (fun r12 us13 H locs w14 hP hD hS => ?_)
      obtain ⟨hr12, hfA⟩ := w14
      subst hr12
      have h_thrown : nI 0 = us13.2.2.2.2.1 := by rw [hfA.2.2.1]; exact h_thrown
      have zus13_1 : us13.1 = u.1 := (show us13.1 = us10.1 from hfA.1).trans qus10_1
      have zus13_21 : us13.2.1 = u.2.1 := (show us13.2.1 = us10.2.1 from hfA.2.1).trans qus10_21
      have zus13_k : us13.2.2.2.1 = u.2.2.2.1 := (show us13.2.2.2.1 = us10.2.2.2.1 from (by rw [hfA.2.2.1])).trans qus10_k
      exact W.iret (v := grU us10 c0) hx hb hr (fun t ht hW => ⟨⟨grU us10 c0, us13, rfl, (by rw [cC, hlo]; exact ⟨h_thrown.symm, zus13_1, zus13_21, zus13_k, fun _ => by rw [sv_gr (now := u.1 1) ⟨by rw [pus10_whole]; exact hsv.1, fun a9 ha9 b9 hb9 => by rw [pus10_221]; exact hsv.2.1 a9 ha9 b9 hb9, fun a9 ha9 => by rw [pus10_221]; exact hsv.2.2 a9 ha9⟩ (congrFun qus10_1 1), ec0, nI_clamp (by omega)]⟩), by rw [ht]; exact hP, va_K.moved hW.alike hK, hD⟩, hS.F ht⟩) hS.2.2 dX3_greatestEqual_47
  · refine lv_iconst (v := nI 1) hx hb dX3_greatestEqual_12 (by decide) ?_
    refine lv_goto (tgt := 28) hx hb dX3_greatestEqual_13 (by decide) ?_
    refine va_put (D := dd) (ci := 5) (v := .int (nI 1)) (ty := .int) (C := RX3) (T := TX3) (N := 15) hx hb hts (fun _ h9 => List.mem_cons_of_mem _ (List.mem_append_left _ (List.mem_append_left _ (List.mem_append_right _ h9)))) tyX3 tyX3_ok nmX3 hown hK hP hD hS 0 (wM_0 cy ad u X) rfl 5 (by decide) (hts (Cond.fieldLink RX3 45 "HeadGridModel" "thrown" "I") (List.mem_of_getElem? (i := 1) rfl)) (fun _ h9 => h9) rfl (tyX3_ok 5 (by decide)) rfl rfl (Nat.le_of_ble_eq_true rfl) dX3_greatestEqual_28 (fun H locs hP hD hS => ?_)
    have hP : va_P dd vwCl (wM cy ad (u.1, u.2.1, u.2.2.1, u.2.2.2.1, (nI 1), u.2.2.2.2.2) ++ X) H := hP
    have hD : va_D A (wM cy ad (u.1, u.2.1, u.2.2.1, u.2.2.2.1, (nI 1), u.2.2.2.2.2) ++ X) := hD
    obtain ⟨us15, hus15⟩ : ∃ z9z : MS, z9z = (u.1, u.2.1, u.2.2.1, u.2.2.2.1, (nI 1), u.2.2.2.2.2) := ⟨_, rfl⟩
    rw [← hus15] at hP hD
    have pus15_1 : us15.1 = u.1 := by rw [hus15]
    have pus15_21 : us15.2.1 = u.2.1 := by rw [hus15]
    have pus15_221 : us15.2.2.1 = u.2.2.1 := by rw [hus15]
    have pus15_kept : us15.2.2.2.1 = u.2.2.2.1 := by rw [hus15]
    have h_thrown : (nI 1) = us15.2.2.2.2.1 := by rw [hus15]
    have pus15_whole : us15.2.2.2.2.2.1 = u.2.2.2.2.2.1 := by rw [hus15]
    have pus15_hash : us15.2.2.2.2.2.2 = u.2.2.2.2.2.2 := by rw [hus15]
    have qus15_1 : us15.1 = u.1 := pus15_1.trans rfl
    have qus15_21 : us15.2.1 = u.2.1 := pus15_21.trans rfl
    have qus15_k : us15.2.2.2.1 = u.2.2.2.1 := pus15_kept.trans rfl
    refine lv_aload_n hx hb dX3_greatestEqual_31 rfl (lv_at hl 0 rfl) ?_
    refine va_get (D := dd) (ci := 5) (v := .int (nI 1)) (C := RX3) (T := TX3) (N := 15) hx hb hts (fun _ h9 => List.mem_cons_of_mem _ (List.mem_append_left _ (List.mem_append_left _ (List.mem_append_right _ h9)))) hown hK hP 0 (wM_0 cy ad us15 X) rfl 5 (by decide) (hts (Cond.fieldLink RX3 45 "HeadGridModel" "thrown" "I") (List.mem_of_getElem? (i := 1) rfl)) (fun _ h9 => h9) (by rw [h_thrown]; rfl) dX3_greatestEqual_32 ?_
    refine wn_if_eq (tgt := 42) hx hb dX3_greatestEqual_35 (by decide) (by omega) (fun c16 => (by first | exact absurd c16 (by decide) | exact absurd (by decide) c16)) (fun _ => ?_)
    refine lv_iconst (v := nI 0) hx hb dX3_greatestEqual_38 (by decide) ?_
    refine lv_goto (tgt := 47) hx hb dX3_greatestEqual_39 (by decide) ?_
    exact W.iret (v := (nI 0)) hx hb hr (fun t ht hW => ⟨⟨(nI 0), us15, rfl, (by rw [cC]; exact ⟨h_thrown.symm, qus15_1, qus15_21, qus15_k, fun q9 => absurd q9 (by simp)⟩), by rw [ht]; exact hP, va_K.moved hW.alike hK, hD⟩, hS.F ht⟩) hS.2.2 dX3_greatestEqual_47

set_option maxHeartbeats 4000000 in
set_option maxRecDepth 100000 in
/-- the law's loop -/
theorem law_loop {p : Program} {l : Launch} {e : Env} {s : State} {m : MethodId} {below : List Frame} {meth : Method} {c : Code} {dd : va_G} {cy : Nat → ClassId} {ad am : Nat → Nat} {tt : Nat × Nat} {N : Nat → Nat} {o : Nat × Nat} {b L : Nat} {xs : Nat → Int32} (hlt : l.stackTraces = false) (C0 : lcx p s m c dd cy tt N b L xs) (hr : meth.sig.returnType = ret) (hlocks : meth.locks = false) (hL : L ≤ 2048) :
    ∀ (f i0 n : Nat) (u : CS) (mv : MS) (g : Nat → Int64) (d : Nat → UInt64) (H : Heap) (locs : List Loc) (ls : Array Slot), i0 + f = 513 → 4 * i0 ≤ L → Tie n (1000 + 900000 * i0) u mv → va_P dd vwCl (wL cy ad o (wM cy am mv) (u, g, d)) H → va_D (lA s) (wL cy ad o (wM cy am mv) (u, g, d)) → va_S (lA s) s.heap H locs → lv_has ls 9 [(5, .int (nI (4 * i0))), (0, .ref b), (1, .ref (ad 0)), (2, .ref (am 0)), (3, .ref o.1), (4, .ref o.2)] → W p l e room_1 s m #[Value.ref b] below meth c H locs (71 + 4 * i0) (1794 + 24 * i0) (lw_Z below #[Value.ref b] s) (F0 m 28 ls []) := by
  obtain ⟨hx, hb, hml, hown, hts, hX, hbl, hK, hSt, hE, hN⟩ := id C0
  have hA : ∀ q : Nat, s.heap.size ≤ q → lA s q := fun _ h => h
  have hbA : ¬ lA s b := Nat.not_le.mpr hbl
  intro f
  induction f with
  | zero => intro i0 n u mv g d H locs ls h1 h2; exact absurd h2 (by omega)
  | succ f ih =>
    intro i0 n u mv g d H locs ls hf hi0 hT hP hD hS hl
    obtain ⟨i, ei⟩ : ∃ i : Nat, i = 4 * i0 := ⟨_, rfl⟩
    rw [← ei] at hl
    refine lv_iload hx hb dL_law_28 (lv_at hl 0 rfl) ?_
    refine lv_aload_n hx hb dL_law_30 rfl (lv_at hl 1 rfl) ?_
    refine va_slen hx hb hX hbl hbA hS dL_law_31 ?_
    refine lv_iconst (v := nI 4) hx hb dL_law_32 (by decide) ?_
    refine lv_isub hx hb dL_law_33 ?_
    refine lv_icmp_gt (tgt := 1508) hx hb dL_law_34 (by decide) (fun cL => ?_) (fun cL => ?_)
    · refine lv_iconst (v := nI 1) hx hb dL_law_1508 (by decide) ?_
      refine va_forget (fun q hq => hS.2.2 q hq) ?_
      refine W.widen (k := 603072) (n := 7219306) (by omega) (by omega) ?_
      exact W.base (lw_ret (Drawn.sameBut.refl s.drawn lw_cs) hx hb hr hlocks dL_law_1509)
    · have hi := lenC (by omega) hL cL
      have kk : ∀ (n : Nat) (u : CS) (mv : MS) (g : Nat → Int64) (d : Nat → UInt64) (H : Heap) (locs : List Loc) (ls : Array Slot), Tie n ((1000 + 900000 * i0) + 900000) u mv → va_P dd vwCl (wL cy ad o (wM cy am mv) (u, g, d)) H → va_D (lA s) (wL cy ad o (wM cy am mv) (u, g, d)) → va_S (lA s) s.heap H locs → lv_has ls 9 [(5, .int (nI i)), (0, .ref b), (1, .ref (ad 0)), (2, .ref (am 0)), (3, .ref o.1), (4, .ref o.2)] → W p l e room_1 s m #[Value.ref b] below meth c H locs ((71 + 4 * i0) + 4) ((1794 + 24 * i0) + 24) (lw_Z below #[Value.ref b] s) (F0 m 1502 ls []) := by
        intro n u mv g d H locs ls hT hP hD hS hl
        refine lv_iinc (v := nI (i + 4)) (lv' := [(5, .int (nI (i + 4))), (0, .ref b), (1, .ref (ad 0)), (2, .ref (am 0)), (3, .ref o.1), (4, .ref o.2)]) hx hb dL_law_1502 hl (k := 0) rfl (nI_add _ 4) (by decide) rfl (fun ls hl => ?_)
        refine lv_goto (tgt := 28) hx hb dL_law_1505 (by decide) ?_
        refine W.widen (k := 71 + 4 * (i0 + 1)) (n := 1794 + 24 * (i0 + 1)) (by omega) (by omega) ?_
        rw [show i + 4 = 4 * (i0 + 1) by omega] at hl
        exact ih (i0 + 1) n u mv g d H locs ls (by omega) (by omega) (tie_mono hT (by omega)) hP hD hS hl
      refine lv_aload_n hx hb dL_law_37 rfl (lv_at hl 1 rfl) ?_
      refine lv_iload hx hb dL_law_38 (lv_at hl 0 rfl) ?_
      refine wa_sld hx hb hX hbl hbA hS (i := i) (by omega) (by omega) dL_law_40 ?_
      refine lv_bipush (v := nI 31) hx hb dL_law_41 (by decide) ?_
      refine lv_iand hx hb dL_law_43 ?_
      obtain ⟨k9, hk9, ek9⟩ := and31 (xs i)
      rw [ek9]
      rcases (show k9 = 0 ∨ k9 = 1 ∨ k9 = 2 ∨ k9 = 3 ∨ k9 = 4 ∨ k9 = 5 ∨ k9 = 6 ∨ k9 = 7 ∨ k9 = 8 ∨ k9 = 9 ∨ k9 = 10 ∨ k9 = 11 ∨ k9 = 12 ∨ k9 = 13 ∨ k9 = 14 ∨ k9 = 15 ∨ k9 = 16 ∨ k9 = 17 ∨ k9 = 18 ∨ k9 = 19 ∨ k9 = 20 ∨ k9 = 21 ∨ k9 = 22 ∨ 22 < k9 by omega) with h9 | h9 | h9 | h9 | h9 | h9 | h9 | h9 | h9 | h9 | h9 | h9 | h9 | h9 | h9 | h9 | h9 | h9 | h9 | h9 | h9 | h9 | h9 | h9
      · subst h9
        refine lv_tableIn (off := 108) (tgt := 152) hx hb dL_law_44 (by decide) (by decide) (by decide) (by decide) ?_
        exact lc_setLink hlt C0 hi hL hT (by omega) (by omega) (by omega) (by omega) hP hD hS hl kk
      · subst h9
        refine lv_tableIn (off := 176) (tgt := 220) hx hb dL_law_44 (by decide) (by decide) (by decide) (by decide) ?_
        exact lc_setEdge hlt C0 hi hL hT (by omega) (by omega) (by omega) (by omega) hP hD hS hl kk
      · subst h9
        refine lv_tableIn (off := 244) (tgt := 288) hx hb dL_law_44 (by decide) (by decide) (by decide) (by decide) ?_
        exact lc_setRecharge hlt C0 hi hL hT (by omega) (by omega) (by omega) (by omega) hP hD hS hl kk
      · subst h9
        refine lv_tableIn (off := 312) (tgt := 356) hx hb dL_law_44 (by decide) (by decide) (by decide) (by decide) ?_
        exact lc_setRate hlt C0 hi hL hT (by omega) (by omega) (by omega) (by omega) hP hD hS hl kk
      · subst h9
        refine lv_tableIn (off := 380) (tgt := 424) hx hb dL_law_44 (by decide) (by decide) (by decide) (by decide) ?_
        exact lc_setLevels hlt C0 hi hL hT (by omega) (by omega) (by omega) (by omega) hP hD hS hl kk
      · subst h9
        refine lv_tableIn (off := 460) (tgt := 504) hx hb dL_law_44 (by decide) (by decide) (by decide) (by decide) ?_
        exact lc_isLoose hlt C0 hi hL hT (by omega) (by omega) (by omega) (by omega) hP hD hS hl kk
      · subst h9
        refine lv_tableIn (off := 473) (tgt := 517) hx hb dL_law_44 (by decide) (by decide) (by decide) (by decide) ?_
        exact lc_head hlt C0 hi hL hT (by omega) (by omega) (by omega) (by omega) hP hD hS hl kk
      · subst h9
        refine lv_tableIn (off := 540) (tgt := 584) hx hb dL_law_44 (by decide) (by decide) (by decide) (by decide) ?_
        exact lc_flow hlt C0 hi hL hT (by omega) (by omega) (by omega) (by omega) hP hD hS hl kk
      · subst h9
        refine lv_tableIn (off := 607) (tgt := 651) hx hb dL_law_44 (by decide) (by decide) (by decide) (by decide) ?_
        exact lc_inflow hlt C0 hi hL hT (by omega) (by omega) (by omega) (by omega) hP hD hS hl kk
      · subst h9
        refine lv_tableIn (off := 674) (tgt := 718) hx hb dL_law_44 (by decide) (by decide) (by decide) (by decide) ?_
        exact lc_influence hlt C0 hi hL hT (by omega) (by omega) (by omega) (by omega) hP hD hS hl kk
      · subst h9
        refine lv_tableIn (off := 753) (tgt := 797) hx hb dL_law_44 (by decide) (by decide) (by decide) (by decide) ?_
        exact lc_drawdown hlt C0 hi hL hT (by omega) (by omega) (by omega) (by omega) hP hD hS hl kk
      · subst h9
        refine lv_tableIn (off := 820) (tgt := 864) hx hb dL_law_44 (by decide) (by decide) (by decide) (by decide) ?_
        exact lc_determinant hlt C0 hi hL hT (by omega) (by omega) (by omega) (by omega) hP hD hS hl kk
      · subst h9
        refine lv_tableIn (off := 834) (tgt := 878) hx hb dL_law_44 (by decide) (by decide) (by decide) (by decide) ?_
        exact lc_extreme hlt C0 hi hL hT (by omega) (by omega) (by omega) (by omega) hP hD hS hl kk
      · subst h9
        refine lv_tableIn (off := 906) (tgt := 950) hx hb dL_law_44 (by decide) (by decide) (by decide) (by decide) ?_
        exact lc_dry hlt C0 hi hL hT (by omega) (by omega) (by omega) (by omega) hP hD hS hl kk
      · subst h9
        refine lv_tableIn (off := 950) (tgt := 994) hx hb dL_law_44 (by decide) (by decide) (by decide) (by decide) ?_
        exact lc_isAllowed hlt C0 hi hL hT (by omega) (by omega) (by omega) (by omega) hP hD hS hl kk
      · subst h9
        refine lv_tableIn (off := 1001) (tgt := 1045) hx hb dL_law_44 (by decide) (by decide) (by decide) (by decide) ?_
        exact lc_greatestRate hlt C0 hi hL hT (by omega) (by omega) (by omega) (by omega) hP hD hS hl kk
      · subst h9
        refine lv_tableIn (off := 1057) (tgt := 1101) hx hb dL_law_44 (by decide) (by decide) (by decide) (by decide) ?_
        exact lc_greatestEqual hlt C0 hi hL hT (by omega) (by omega) (by omega) (by omega) hP hD hS hl kk
      · subst h9
        refine lv_tableIn (off := 1113) (tgt := 1157) hx hb dL_law_44 (by decide) (by decide) (by decide) (by decide) ?_
        exact lc_bestPair hlt C0 hi hL hT (by omega) (by omega) (by omega) (by omega) hP hD hS hl kk
      · subst h9
        refine lv_tableIn (off := 1181) (tgt := 1225) hx hb dL_law_44 (by decide) (by decide) (by decide) (by decide) ?_
        exact lc_relax hlt C0 hi hL hT (by omega) (by omega) (by omega) (by omega) hP hD hS hl kk
      · subst h9
        refine lv_tableIn (off := 1258) (tgt := 1302) hx hb dL_law_44 (by decide) (by decide) (by decide) (by decide) ?_
        exact lc_relaxed hlt C0 hi hL hT (by omega) (by omega) (by omega) (by omega) hP hD hS hl kk
      · subst h9
        refine lv_tableIn (off := 1335) (tgt := 1379) hx hb dL_law_44 (by decide) (by decide) (by decide) (by decide) ?_
        exact lc_error hlt C0 hi hL hT (by omega) (by omega) (by omega) (by omega) hP hD hS hl kk
      · subst h9
        refine lv_tableIn (off := 1400) (tgt := 1444) hx hb dL_law_44 (by decide) (by decide) (by decide) (by decide) ?_
        exact lc_undo hlt C0 hi hL hT (by omega) (by omega) (by omega) (by omega) hP hD hS hl kk
      · subst h9
        refine lv_tableIn (off := 1444) (tgt := 1488) hx hb dL_law_44 (by decide) (by decide) (by decide) (by decide) ?_
        exact lc_digest hlt C0 hi hL hT (by omega) (by omega) (by omega) (by omega) hP hD hS hl kk
      · refine lv_tableOut (tgt := 1502) hx hb dL_law_44 (Or.inr (by rw [nI_toInt (by omega)]; omega)) (by decide) ?_
        refine W.widen (k := (71 + 4 * i0) + 4) (n := (1794 + 24 * i0) + 24) (by omega) (by omega) ?_
        exact kk n u mv g d H locs ls (tie_mono hT (by omega)) hP hD hS hl

/-! the class: its public methods -/
/-- a state has been saved -/
def svN (n : Nat) (u u9 : CS) : Prop := u9.2.2.2.1 = nI (kpM n + 1) ∧ u9.2.2.2.2.1 = nI 0 ∧ u9.2.2.2.2.2.2 = rotS n u.2.2.2.2.2.2 ∧ (∀ k, k < 72 → nwB u9 (rotS n u.2.2.2.2.2.2 (kpM n)) k = nw u k) ∧ (∀ j, j < 9 → u9.2.1 (17 + 8 * rotS n u.2.2.2.2.2.2 (kpM n) + 7) j = u.2.1 24 j) ∧ (∀ c, 1 ≤ c → c < 5 → c ≠ rotS n u.2.2.2.2.2.2 (kpM n) → nwB u9 c = nwB u c ∧ u9.2.1 (17 + 8 * c + 7) = u.2.1 (17 + 8 * c + 7))
theorem kpM_lt {n : Nat} (h : n ≤ 4) : kpM n < 4 := by unfold kpM; split <;> omega
/-- what lies behind the saved rows may change -/
theorem svN_keep {n : Nat} {u u1 u9 : CS} (h : svN n u u1) (h1 : ∀ c, 1 ≤ c → c < 5 → nwB u9 c = nwB u1 c ∧ u9.2.1 (17 + 8 * c + 7) = u1.2.1 (17 + 8 * c + 7)) (h2 : u9.2.2.2.1 = u1.2.2.2.1) (h3 : u9.2.2.2.2.1 = u1.2.2.2.2.1) (h4 : u9.2.2.2.2.2.2 = u1.2.2.2.2.2.2) (hok : svOk u.2.2.2.2.2.2) (hn : n ≤ 4) : svN n u u9 := by
  have hB := (rotS_ok (n := n) hok).1 (kpM n) (kpM_lt hn)
  refine ⟨h2.trans h.1, h3.trans h.2.1, h4.trans h.2.2.1, fun k hk => ?_, fun j hj => ?_, fun c a b e => ?_⟩
  · rw [(h1 _ hB.1 hB.2).1]; exact h.2.2.2.1 k hk
  · rw [(h1 _ hB.1 hB.2).2]; exact h.2.2.2.2.1 j hj
  · rw [(h1 c a b).1, (h1 c a b).2]; exact h.2.2.2.2.2 c a b e
theorem sl0 {u : CS} (h : u.2.2.2.2.1 = nI 0) : slI u := ⟨0, by decide, h.symm, fun q => absurd q (by decide)⟩
theorem nw_s0 {u u1 : CS} {i : Nat} {v : Int32} (hi : i < 24) (h : u1.1 18 = upd (u.1 18) i v) (ho : ∀ k, k ≠ 18 → u1.1 k = u.1 k) : nw u1 = upd (nw u) (0 + i) v := by
  funext k
  unfold nw nwB
  rw [show u1.1 (17 + 8 * 0 + 1) = upd (u.1 (17 + 8 * 0 + 1)) i v from h]
  rw [show u1.1 (17 + 8 * 0 + 2) = u.1 (17 + 8 * 0 + 2) from ho _ (by decide)]
  rw [show u1.1 (17 + 8 * 0 + 3) = u.1 (17 + 8 * 0 + 3) from ho _ (by decide)]
  rw [show u1.1 (17 + 8 * 0 + 4) = u.1 (17 + 8 * 0 + 4) from ho _ (by decide)]
  rw [show u1.1 (17 + 8 * 0 + 5) = u.1 (17 + 8 * 0 + 5) from ho _ (by decide)]
  rw [show u1.1 (17 + 8 * 0 + 6) = u.1 (17 + 8 * 0 + 6) from ho _ (by decide)]
  unfold upd
  by_cases e : k = 0 + i
  · rw [if_pos e, if_pos (by omega), if_pos (by omega)]
  · rw [if_neg e]
    dsimp only
    by_cases g0 : k < 24
    · rw [if_pos g0, if_pos g0, if_neg (by omega)]
    · rw [if_neg g0, if_neg g0]
theorem nw_s1 {u u1 : CS} {i : Nat} {v : Int32} (hi : i < 12) (h : u1.1 19 = upd (u.1 19) i v) (ho : ∀ k, k ≠ 19 → u1.1 k = u.1 k) : nw u1 = upd (nw u) (24 + i) v := by
  funext k
  unfold nw nwB
  rw [show u1.1 (17 + 8 * 0 + 1) = u.1 (17 + 8 * 0 + 1) from ho _ (by decide)]
  rw [show u1.1 (17 + 8 * 0 + 2) = upd (u.1 (17 + 8 * 0 + 2)) i v from h]
  rw [show u1.1 (17 + 8 * 0 + 3) = u.1 (17 + 8 * 0 + 3) from ho _ (by decide)]
  rw [show u1.1 (17 + 8 * 0 + 4) = u.1 (17 + 8 * 0 + 4) from ho _ (by decide)]
  rw [show u1.1 (17 + 8 * 0 + 5) = u.1 (17 + 8 * 0 + 5) from ho _ (by decide)]
  rw [show u1.1 (17 + 8 * 0 + 6) = u.1 (17 + 8 * 0 + 6) from ho _ (by decide)]
  unfold upd
  by_cases e : k = 24 + i
  · rw [if_pos e, if_neg (by omega), if_pos (by omega), if_pos (by omega)]
  · rw [if_neg e]
    dsimp only
    by_cases g0 : k < 24
    · rw [if_pos g0, if_pos g0]
    · rw [if_neg g0, if_neg g0]
      by_cases g1 : k < 36
      · rw [if_pos g1, if_pos g1, if_neg (by omega)]
      · rw [if_neg g1, if_neg g1]
theorem nw_s2 {u u1 : CS} {i : Nat} {v : Int32} (hi : i < 9) (h : u1.1 20 = upd (u.1 20) i v) (ho : ∀ k, k ≠ 20 → u1.1 k = u.1 k) : nw u1 = upd (nw u) (36 + i) v := by
  funext k
  unfold nw nwB
  rw [show u1.1 (17 + 8 * 0 + 1) = u.1 (17 + 8 * 0 + 1) from ho _ (by decide)]
  rw [show u1.1 (17 + 8 * 0 + 2) = u.1 (17 + 8 * 0 + 2) from ho _ (by decide)]
  rw [show u1.1 (17 + 8 * 0 + 3) = upd (u.1 (17 + 8 * 0 + 3)) i v from h]
  rw [show u1.1 (17 + 8 * 0 + 4) = u.1 (17 + 8 * 0 + 4) from ho _ (by decide)]
  rw [show u1.1 (17 + 8 * 0 + 5) = u.1 (17 + 8 * 0 + 5) from ho _ (by decide)]
  rw [show u1.1 (17 + 8 * 0 + 6) = u.1 (17 + 8 * 0 + 6) from ho _ (by decide)]
  unfold upd
  by_cases e : k = 36 + i
  · rw [if_pos e, if_neg (by omega), if_neg (by omega), if_pos (by omega), if_pos (by omega)]
  · rw [if_neg e]
    dsimp only
    by_cases g0 : k < 24
    · rw [if_pos g0, if_pos g0]
    · rw [if_neg g0, if_neg g0]
      by_cases g1 : k < 36
      · rw [if_pos g1, if_pos g1]
      · rw [if_neg g1, if_neg g1]
        by_cases g2 : k < 45
        · rw [if_pos g2, if_pos g2, if_neg (by omega)]
        · rw [if_neg g2, if_neg g2]
theorem nw_s3 {u u1 : CS} {i : Nat} {v : Int32} (hi : i < 9) (h : u1.1 21 = upd (u.1 21) i v) (ho : ∀ k, k ≠ 21 → u1.1 k = u.1 k) : nw u1 = upd (nw u) (45 + i) v := by
  funext k
  unfold nw nwB
  rw [show u1.1 (17 + 8 * 0 + 1) = u.1 (17 + 8 * 0 + 1) from ho _ (by decide)]
  rw [show u1.1 (17 + 8 * 0 + 2) = u.1 (17 + 8 * 0 + 2) from ho _ (by decide)]
  rw [show u1.1 (17 + 8 * 0 + 3) = u.1 (17 + 8 * 0 + 3) from ho _ (by decide)]
  rw [show u1.1 (17 + 8 * 0 + 4) = upd (u.1 (17 + 8 * 0 + 4)) i v from h]
  rw [show u1.1 (17 + 8 * 0 + 5) = u.1 (17 + 8 * 0 + 5) from ho _ (by decide)]
  rw [show u1.1 (17 + 8 * 0 + 6) = u.1 (17 + 8 * 0 + 6) from ho _ (by decide)]
  unfold upd
  by_cases e : k = 45 + i
  · rw [if_pos e, if_neg (by omega), if_neg (by omega), if_neg (by omega), if_pos (by omega), if_pos (by omega)]
  · rw [if_neg e]
    dsimp only
    by_cases g0 : k < 24
    · rw [if_pos g0, if_pos g0]
    · rw [if_neg g0, if_neg g0]
      by_cases g1 : k < 36
      · rw [if_pos g1, if_pos g1]
      · rw [if_neg g1, if_neg g1]
        by_cases g2 : k < 45
        · rw [if_pos g2, if_pos g2]
        · rw [if_neg g2, if_neg g2]
          by_cases g3 : k < 54
          · rw [if_pos g3, if_pos g3, if_neg (by omega)]
          · rw [if_neg g3, if_neg g3]
theorem nw_s4 {u u1 : CS} {i : Nat} {v : Int32} (hi : i < 9) (h : u1.1 22 = upd (u.1 22) i v) (ho : ∀ k, k ≠ 22 → u1.1 k = u.1 k) : nw u1 = upd (nw u) (54 + i) v := by
  funext k
  unfold nw nwB
  rw [show u1.1 (17 + 8 * 0 + 1) = u.1 (17 + 8 * 0 + 1) from ho _ (by decide)]
  rw [show u1.1 (17 + 8 * 0 + 2) = u.1 (17 + 8 * 0 + 2) from ho _ (by decide)]
  rw [show u1.1 (17 + 8 * 0 + 3) = u.1 (17 + 8 * 0 + 3) from ho _ (by decide)]
  rw [show u1.1 (17 + 8 * 0 + 4) = u.1 (17 + 8 * 0 + 4) from ho _ (by decide)]
  rw [show u1.1 (17 + 8 * 0 + 5) = upd (u.1 (17 + 8 * 0 + 5)) i v from h]
  rw [show u1.1 (17 + 8 * 0 + 6) = u.1 (17 + 8 * 0 + 6) from ho _ (by decide)]
  unfold upd
  by_cases e : k = 54 + i
  · rw [if_pos e, if_neg (by omega), if_neg (by omega), if_neg (by omega), if_neg (by omega), if_pos (by omega), if_pos (by omega)]
  · rw [if_neg e]
    dsimp only
    by_cases g0 : k < 24
    · rw [if_pos g0, if_pos g0]
    · rw [if_neg g0, if_neg g0]
      by_cases g1 : k < 36
      · rw [if_pos g1, if_pos g1]
      · rw [if_neg g1, if_neg g1]
        by_cases g2 : k < 45
        · rw [if_pos g2, if_pos g2]
        · rw [if_neg g2, if_neg g2]
          by_cases g3 : k < 54
          · rw [if_pos g3, if_pos g3]
          · rw [if_neg g3, if_neg g3]
            by_cases g4 : k < 63
            · rw [if_pos g4, if_pos g4, if_neg (by omega)]
            · rw [if_neg g4, if_neg g4]
theorem nw_s5 {u u1 : CS} {i : Nat} {v : Int32} (hi : i < 9) (h : u1.1 23 = upd (u.1 23) i v) (ho : ∀ k, k ≠ 23 → u1.1 k = u.1 k) : nw u1 = upd (nw u) (63 + i) v := by
  funext k
  unfold nw nwB
  rw [show u1.1 (17 + 8 * 0 + 1) = u.1 (17 + 8 * 0 + 1) from ho _ (by decide)]
  rw [show u1.1 (17 + 8 * 0 + 2) = u.1 (17 + 8 * 0 + 2) from ho _ (by decide)]
  rw [show u1.1 (17 + 8 * 0 + 3) = u.1 (17 + 8 * 0 + 3) from ho _ (by decide)]
  rw [show u1.1 (17 + 8 * 0 + 4) = u.1 (17 + 8 * 0 + 4) from ho _ (by decide)]
  rw [show u1.1 (17 + 8 * 0 + 5) = u.1 (17 + 8 * 0 + 5) from ho _ (by decide)]
  rw [show u1.1 (17 + 8 * 0 + 6) = upd (u.1 (17 + 8 * 0 + 6)) i v from h]
  unfold upd
  by_cases e : k = 63 + i
  · rw [if_pos e, if_neg (by omega), if_neg (by omega), if_neg (by omega), if_neg (by omega), if_neg (by omega), if_pos (by omega)]
  · rw [if_neg e]
    dsimp only
    by_cases g0 : k < 24
    · rw [if_pos g0, if_pos g0]
    · rw [if_neg g0, if_neg g0]
      by_cases g1 : k < 36
      · rw [if_pos g1, if_pos g1]
      · rw [if_neg g1, if_neg g1]
        by_cases g2 : k < 45
        · rw [if_pos g2, if_pos g2]
        · rw [if_neg g2, if_neg g2]
          by_cases g3 : k < 54
          · rw [if_pos g3, if_pos g3]
          · rw [if_neg g3, if_neg g3]
            by_cases g4 : k < 63
            · rw [if_pos g4, if_pos g4]
            · rw [if_neg g4, if_neg g4]
              rw [if_neg (by omega)]
theorem upd_swap {f : Nat → Int32} {i j : Nat} {v w : Int32} (h : i ≠ j) : upd (upd f i v) j w = upd (upd f j w) i v := by
  funext k; unfold upd; by_cases e : k = j
  · subst e; rw [if_pos rfl, if_neg (fun q => h q.symm), if_pos rfl]
  · rw [if_neg e]; by_cases e2 : k = i
    · subst e2; rw [if_pos rfl, if_pos rfl]
    · rw [if_neg e2, if_neg e2, if_neg e]
theorem hd_X2_setLink : yX2_setLink.cls = RX2 ∧ yX2_setLink.cls ≠ "java/lang/invoke/MethodHandle" ∧ yX2_setLink.cls ≠ "java/lang/invoke/VarHandle" ∧ (parseMethodDescriptor yX2_setLink.desc).map (fun d => d.parameters.length) = some 2 := by decide +kernel
set_option maxHeartbeats 4000000 in
set_option maxRecDepth 100000 in
/-- X2_setLink -/
theorem c_X2_setLink (l : Launch) (hlt : l.stackTraces = false) (dd : va_G) (cy : Nat → ClassId) (ad : Nat → Nat) (X : va_W) (tt : Nat × Nat) (N : Nat → Nat) (u : CS) (sz : Nat) (n : Nat) (hn : n ≤ 4) (hok : svOk u.2.2.2.2.2.2) (h_savedCount : nI n = u.2.2.2.1) (hsI : slI u) (link v : Int32) : vx_Met l yX2_setLink wsX2_setLink ({ frames := 7, cells := 2, slots := 12, locals := 103 }) (va_Pc [.ref (ad 0), .int link, .int v] (wrX dd cy tt N (wC cy ad u ++ X) sz)) (va_Qi (fun r u9 => (if inR link (nI 0) (nI 23) then (if inR v (nI 0) (nI 2) then 0 else 2) else 1) = 0 ∧ r = nw u (0 + link.toNatClampNeg) ∧ svN n u u9 ∧ nw u9 = upd (nw u) (0 + link.toNatClampNeg) v ∧ u9.2.1 24 = u.2.1 24) (wB dd cy (fun u9 : CS => wC cy ad u9 ++ X) (va_A (wC cy ad u ++ X) sz)) (va_A (wC cy ad u ++ X) sz)) (vx_X (fun u9 => frP u u9) (fun E u9 t => xsE E (if inR link (nI 0) (nI 23) then (if inR v (nI 0) (nI 2) then 0 else 2) else 1) [xIO, xIA] ∧ wB dd cy (fun u9 : CS => wC cy ad u9 ++ X) (va_A (wC cy ad u ++ X) sz) u9 t) (va_A (wC cy ad u ++ X) sz)) 2 12 (va_A (wC cy ad u ++ X) sz) := by
  refine vx_ofW (cc := cX2_setLink) (maxL := 3) (ret := (some .int)) (by decide) rfl ?_
  intro p e s m args below meth c s₁ B hml hnt hv
  obtain ⟨rfl, ⟨hsz, hP, hK, hD0, hSt⟩, hE⟩ := hv
  have hx := B.exec
  have hb := B.bytes
  have hr := B.returns
  have hts := atoms_spec (ws := wsX2_setLink) B.pre
  have hown : s.vm.findClass RX2 = some m.cls := findClass_of_methodNamed B.named
  have hlocks := B.notSynchronized
  subst hsz
  have hD := hD0.self (sz := s.heap.size)
  generalize hAe : va_A (wC cy ad u ++ X) s.heap.size = A at hD hSt hE ⊢
  have hA : ∀ q : Nat, s.heap.size ≤ q → A q := fun q h => by rw [← hAe]; exact Or.inr h
  have hS : va_S A s.heap s.heap [] := va_S.rf
  have hl := lv_entry ([.ref (ad 0), .int link, .int v]) (n := 3) (Nat.le_of_ble_eq_true rfl)
  rw [lg_entry_eq]
  generalize (lg_sl ([.ref (ad 0), .int link, .int v]) ++ List.replicate (3 - (lg_sl ([.ref (ad 0), .int link, .int v])).length) Slot.unset).toArray = ls at hl ⊢
  have hl : lv_has ls 3 [(0, .ref (ad 0)), (1, .int link), (2, .int v)] := hl
  refine lv_iload_n hx hb dX2_setLink_0 rfl (lv_at hl 1 rfl) ?_
  refine wx_req (vx_runS (As := [.int link]) (rest := []) ⟨hx, hb, hml, hown, hts⟩ (c_X2_requireLink l hlt N _ link) (va_cwS 1 hts gX2_setLink_X2_requireLink rfl rfl rfl hd_X2_requireLink ⟨Nat.le_of_ble_eq_true rfl, Nat.le_of_ble_eq_true rfl⟩) (exS_S hE hS hA) rfl rfl hl.1 rfl (lv_room (Nat.le_of_ble_eq_true rfl)) dX2_setLink_1 ⟨Nat.le_of_ble_eq_true rfl, Nat.le_of_ble_eq_true rfl⟩) hP hS hA (fun E9 ce q9 H locs hE9 o1 hP hS hce hcv hcl => ?_) (fun H locs o1 hP hS => ?_)
  · subst hE9
    exact vx_out (fun x9 h9 => (hnt x9 h9).elim) hlocks hce hcv hcl (fun t ht hvm => ⟨u, frP_rf hsI, ⟨⟨0, by rw [o1]; rfl, rfl⟩, by rw [ht]; exact hP, va_K.moved hvm hK, hD⟩, hS.F ht⟩) hS.2.2 (Nat.le_of_ble_eq_true rfl) (Nat.le_of_ble_eq_true rfl)
  refine lv_iload_n hx hb dX2_setLink_4 rfl (lv_at hl 2 rfl) ?_
  refine lv_iconst (v := nI 2) hx hb dX2_setLink_5 (by decide) ?_
  refine wx_req (vx_runS (As := [.int v, .int (nI 2)]) (rest := []) ⟨hx, hb, hml, hown, hts⟩ (c_X2_requireRange l hlt N _ v 2) (va_cwS 2 hts gX2_setLink_X2_requireRange rfl rfl rfl hd_X2_requireRange ⟨Nat.le_of_ble_eq_true rfl, Nat.le_of_ble_eq_true rfl⟩) (exS_S hE hS hA) rfl rfl hl.1 rfl (lv_room (Nat.le_of_ble_eq_true rfl)) dX2_setLink_6 ⟨Nat.le_of_ble_eq_true rfl, Nat.le_of_ble_eq_true rfl⟩) hP hS hA (fun E9 ce q9 H locs hE9 o2 hP hS hce hcv hcl => ?_) (fun H locs o2 hP hS => ?_)
  · subst hE9
    exact vx_out (fun x9 h9 => (hnt x9 h9).elim) hlocks hce hcv hcl (fun t ht hvm => ⟨u, frP_rf hsI, ⟨⟨1, by rw [o1, o2]; rfl, rfl⟩, by rw [ht]; exact hP, va_K.moved hvm hK, hD⟩, hS.F ht⟩) hS.2.2 (Nat.le_of_ble_eq_true rfl) (Nat.le_of_ble_eq_true rfl)
  obtain ⟨c0, hc0, ec0⟩ := inR_nat (n := 23) (by decide) o1
  have hl : lv_has ls 3 [(0, .ref (ad 0)), (1, .int (nI c0)), (2, .int v)] := by rw [← ec0]; exact hl
  refine lv_aload_n hx hb dX2_setLink_9 rfl (lv_at hl 0 rfl) ?_
  refine wc_callv (va_runV (As := []) (rest := []) ⟨hx, hb, hml, hown, hts⟩ (c_X2_saveNow l dd cy ad X tt u _ n hn hok h_savedCount) (cwV 0 hts gX2_setLink_X2_saveNow rfl rfl rfl hd_X2_saveNow ⟨Nat.le_of_ble_eq_true rfl, Nat.le_of_ble_eq_true rfl⟩) (wrC_V hP hK hD hSt hS hA (wC_0 cy ad u X) rfl) rfl rfl hl.1 rfl (lv_room (Nat.le_of_ble_eq_true rfl)) dX2_setLink_10 ⟨Nat.le_of_ble_eq_true rfl, Nat.le_of_ble_eq_true rfl⟩) hD hS hA (fun us3 H locs w4 hP hD hS => ?_)
  have hR9 := (rotS_ok (n := n) hok).1 (kpM n) (kpM_lt hn)
  have hSN : svN n u us3 := ⟨w4.1, w4.2.1, w4.2.2.1, w4.2.2.2.1, w4.2.2.2.2.1, fun c9 a9 b9 e9 => w4.2.2.2.2.2 c9 b9 e9⟩
  have hN0 := w4.2.2.2.2.2 0 (by decide) (by omega)
  have hN1 : nw us3 = nw u := hN0.1
  have hN2 : us3.2.1 24 = u.2.1 24 := hN0.2
  refine lv_aload_n hx hb dX2_setLink_13 rfl (lv_at hl 0 rfl) ?_
  refine va_get (D := dd) (ci := 4) (v := .ref (ad 17)) (C := RX2) (T := TX2) (N := 7) hx hb hts (fun _ h9 => List.mem_cons_of_mem _ (List.mem_append_left _ (List.mem_append_left _ (List.mem_append_left _ (List.mem_append_left _ (List.mem_append_right _ h9)))))) hown hK hP (0) (wC_0 cy ad us3 X) rfl 0 (by decide) (hts (Cond.fieldLink RX2 10 "HeadGrid" "now" "LHeadGrid$State;") (List.mem_of_getElem? (i := 1) rfl)) (fun _ h9 => h9) rfl dX2_setLink_14 ?_
  refine va_get (D := dd) (ci := 3) (v := .ref (ad 18)) (C := RX1) (T := TX1) (N := 7) hx hb hts (fun _ h9 => List.mem_cons_of_mem _ (List.mem_append_left _ (List.mem_append_left _ (List.mem_append_left _ (List.mem_append_right _ h9))))) hown hK hP (17) (wC_now cy ad us3 X) rfl 0 (by decide) (hts (Cond.fieldLink RX2 53 "HeadGrid$State" "conductances" "[I") (List.mem_of_getElem? (i := 2) rfl)) (fun _ h9 => h9) rfl dX2_setLink_17 ?_
  refine lv_iload_n hx hb dX2_setLink_20 rfl (lv_at hl 1 rfl) ?_
  refine lv_iload_n hx hb dX2_setLink_21 rfl (lv_at hl 2 rfl) ?_
  refine wc_calli (va_runS (As := [.ref (ad 18), .int (nI c0), .int v]) (rest := []) ⟨hx, hb, hml, hown, hts⟩ (c_X2_exchange l dd cy _ 18 _ 24 _ (wC_n0 cy ad us3 X) (by decide) _ c0 (by omega) v) (va_cwS 3 hts gX2_setLink_X2_exchange rfl rfl rfl hd_X2_exchange ⟨Nat.le_of_ble_eq_true rfl, Nat.le_of_ble_eq_true rfl⟩) (wrW_S hP hK hD) rfl rfl hl.1 rfl (lv_room (Nat.le_of_ble_eq_true rfl)) dX2_setLink_22 ⟨Nat.le_of_ble_eq_true rfl, Nat.le_of_ble_eq_true rfl⟩) hD hS hA (fun r7 g5 H locs w6 hP hD hS => ?_)
  rw [wC_sn0 cy ad us3 X g5] at hP hD
  obtain ⟨us8, hus8⟩ : ∃ z9z : CS, z9z = (va_up us3.1 18 g5, us3.2) := ⟨_, rfl⟩
  rw [← hus8] at hP hD
  have pus8_s : us8.1 (18) = g5 := by rw [hus8]; first | exact va_up_s _ _ _ | rfl
  have pus8_o : ∀ j9, j9 ≠ 18 → us8.1 j9 = us3.1 j9 := fun j9 h9 => by rw [hus8]; exact va_up_n h9
  have pus8_21 : us8.2.1 = us3.2.1 := by rw [hus8]
  have pus8_221 : us8.2.2.1 = us3.2.2.1 := by rw [hus8]
  have pus8_222 : us8.2.2.2 = us3.2.2.2 := by rw [hus8]
  have xus8 : us8.1 18 = upd (us3.1 18) c0 v := by rw [pus8_s]; exact w6.2
  exact vx_ret (W.widen (k := 2) (n := 12) (Nat.le_of_ble_eq_true rfl) (Nat.le_of_ble_eq_true rfl) (W.iret (v := r7) hx hb hr (fun t ht hW => ⟨⟨r7, us8, rfl, ⟨by rw [o1, o2]; rfl, by rw [w6.1, show link.toNatClampNeg = c0 by rw [ec0, nI_clamp (by omega)], Nat.zero_add, ← hN1]; exact (nw_0 us3 (by omega)).symm, svN_keep hSN (fun c9 a9 b9 => ⟨nwB_congr (fun k9 g9 l9 => pus8_o k9 (by omega)), by rw [pus8_21]⟩) (by rw [hus8]) (by rw [hus8]) (by rw [hus8]) hok hn, by rw [show link.toNatClampNeg = c0 by rw [ec0, nI_clamp (by omega)], ← hN1]; exact nw_s0 (by omega) xus8 (fun k9 h9 => pus8_o k9 h9), by rw [pus8_21]; exact hN2⟩, by rw [ht]; exact hP, va_K.moved hW.alike hK, hD⟩, hS.F ht⟩) hS.2.2 dX2_setLink_25))
theorem hd_X2_setEdge : yX2_setEdge.cls = RX2 ∧ yX2_setEdge.cls ≠ "java/lang/invoke/MethodHandle" ∧ yX2_setEdge.cls ≠ "java/lang/invoke/VarHandle" ∧ (parseMethodDescriptor yX2_setEdge.desc).map (fun d => d.parameters.length) = some 2 := by decide +kernel
set_option maxHeartbeats 4000000 in
set_option maxRecDepth 100000 in
/-- X2_setEdge -/
theorem c_X2_setEdge (l : Launch) (hlt : l.stackTraces = false) (dd : va_G) (cy : Nat → ClassId) (ad : Nat → Nat) (X : va_W) (tt : Nat × Nat) (N : Nat → Nat) (u : CS) (sz : Nat) (n : Nat) (hn : n ≤ 4) (hok : svOk u.2.2.2.2.2.2) (h_savedCount : nI n = u.2.2.2.1) (hsI : slI u) (point v : Int32) : vx_Met l yX2_setEdge wsX2_setEdge ({ frames := 7, cells := 2, slots := 12, locals := 103 }) (va_Pc [.ref (ad 0), .int point, .int v] (wrX dd cy tt N (wC cy ad u ++ X) sz)) (va_Qi (fun r u9 => (if inR point (nI 0) (nI 11) then (if inR v (nI 0) (nI 1000) then 0 else 2) else 1) = 0 ∧ r = nw u (24 + point.toNatClampNeg) ∧ svN n u u9 ∧ nw u9 = upd (nw u) (24 + point.toNatClampNeg) v ∧ u9.2.1 24 = u.2.1 24) (wB dd cy (fun u9 : CS => wC cy ad u9 ++ X) (va_A (wC cy ad u ++ X) sz)) (va_A (wC cy ad u ++ X) sz)) (vx_X (fun u9 => frP u u9) (fun E u9 t => xsE E (if inR point (nI 0) (nI 11) then (if inR v (nI 0) (nI 1000) then 0 else 2) else 1) [xIO, xIA] ∧ wB dd cy (fun u9 : CS => wC cy ad u9 ++ X) (va_A (wC cy ad u ++ X) sz) u9 t) (va_A (wC cy ad u ++ X) sz)) 2 12 (va_A (wC cy ad u ++ X) sz) := by
  refine vx_ofW (cc := cX2_setEdge) (maxL := 3) (ret := (some .int)) (by decide) rfl ?_
  intro p e s m args below meth c s₁ B hml hnt hv
  obtain ⟨rfl, ⟨hsz, hP, hK, hD0, hSt⟩, hE⟩ := hv
  have hx := B.exec
  have hb := B.bytes
  have hr := B.returns
  have hts := atoms_spec (ws := wsX2_setEdge) B.pre
  have hown : s.vm.findClass RX2 = some m.cls := findClass_of_methodNamed B.named
  have hlocks := B.notSynchronized
  subst hsz
  have hD := hD0.self (sz := s.heap.size)
  generalize hAe : va_A (wC cy ad u ++ X) s.heap.size = A at hD hSt hE ⊢
  have hA : ∀ q : Nat, s.heap.size ≤ q → A q := fun q h => by rw [← hAe]; exact Or.inr h
  have hS : va_S A s.heap s.heap [] := va_S.rf
  have hl := lv_entry ([.ref (ad 0), .int point, .int v]) (n := 3) (Nat.le_of_ble_eq_true rfl)
  rw [lg_entry_eq]
  generalize (lg_sl ([.ref (ad 0), .int point, .int v]) ++ List.replicate (3 - (lg_sl ([.ref (ad 0), .int point, .int v])).length) Slot.unset).toArray = ls at hl ⊢
  have hl : lv_has ls 3 [(0, .ref (ad 0)), (1, .int point), (2, .int v)] := hl
  refine lv_iload_n hx hb dX2_setEdge_0 rfl (lv_at hl 1 rfl) ?_
  refine wx_req (vx_runS (As := [.int point]) (rest := []) ⟨hx, hb, hml, hown, hts⟩ (c_X2_requirePoint l hlt N _ point) (va_cwS 1 hts gX2_setEdge_X2_requirePoint rfl rfl rfl hd_X2_requirePoint ⟨Nat.le_of_ble_eq_true rfl, Nat.le_of_ble_eq_true rfl⟩) (exS_S hE hS hA) rfl rfl hl.1 rfl (lv_room (Nat.le_of_ble_eq_true rfl)) dX2_setEdge_1 ⟨Nat.le_of_ble_eq_true rfl, Nat.le_of_ble_eq_true rfl⟩) hP hS hA (fun E9 ce q9 H locs hE9 o1 hP hS hce hcv hcl => ?_) (fun H locs o1 hP hS => ?_)
  · subst hE9
    exact vx_out (fun x9 h9 => (hnt x9 h9).elim) hlocks hce hcv hcl (fun t ht hvm => ⟨u, frP_rf hsI, ⟨⟨0, by rw [o1]; rfl, rfl⟩, by rw [ht]; exact hP, va_K.moved hvm hK, hD⟩, hS.F ht⟩) hS.2.2 (Nat.le_of_ble_eq_true rfl) (Nat.le_of_ble_eq_true rfl)
  refine lv_iload_n hx hb dX2_setEdge_4 rfl (lv_at hl 2 rfl) ?_
  refine lv_sipush (v := nI 1000) hx hb dX2_setEdge_5 (by decide) ?_
  refine wx_req (vx_runS (As := [.int v, .int (nI 1000)]) (rest := []) ⟨hx, hb, hml, hown, hts⟩ (c_X2_requireRange l hlt N _ v 1000) (va_cwS 2 hts gX2_setEdge_X2_requireRange rfl rfl rfl hd_X2_requireRange ⟨Nat.le_of_ble_eq_true rfl, Nat.le_of_ble_eq_true rfl⟩) (exS_S hE hS hA) rfl rfl hl.1 rfl (lv_room (Nat.le_of_ble_eq_true rfl)) dX2_setEdge_8 ⟨Nat.le_of_ble_eq_true rfl, Nat.le_of_ble_eq_true rfl⟩) hP hS hA (fun E9 ce q9 H locs hE9 o2 hP hS hce hcv hcl => ?_) (fun H locs o2 hP hS => ?_)
  · subst hE9
    exact vx_out (fun x9 h9 => (hnt x9 h9).elim) hlocks hce hcv hcl (fun t ht hvm => ⟨u, frP_rf hsI, ⟨⟨1, by rw [o1, o2]; rfl, rfl⟩, by rw [ht]; exact hP, va_K.moved hvm hK, hD⟩, hS.F ht⟩) hS.2.2 (Nat.le_of_ble_eq_true rfl) (Nat.le_of_ble_eq_true rfl)
  obtain ⟨c0, hc0, ec0⟩ := inR_nat (n := 11) (by decide) o1
  have hl : lv_has ls 3 [(0, .ref (ad 0)), (1, .int (nI c0)), (2, .int v)] := by rw [← ec0]; exact hl
  refine lv_aload_n hx hb dX2_setEdge_11 rfl (lv_at hl 0 rfl) ?_
  refine wc_callv (va_runV (As := []) (rest := []) ⟨hx, hb, hml, hown, hts⟩ (c_X2_saveNow l dd cy ad X tt u _ n hn hok h_savedCount) (cwV 0 hts gX2_setEdge_X2_saveNow rfl rfl rfl hd_X2_saveNow ⟨Nat.le_of_ble_eq_true rfl, Nat.le_of_ble_eq_true rfl⟩) (wrC_V hP hK hD hSt hS hA (wC_0 cy ad u X) rfl) rfl rfl hl.1 rfl (lv_room (Nat.le_of_ble_eq_true rfl)) dX2_setEdge_12 ⟨Nat.le_of_ble_eq_true rfl, Nat.le_of_ble_eq_true rfl⟩) hD hS hA (fun us3 H locs w4 hP hD hS => ?_)
  have hR9 := (rotS_ok (n := n) hok).1 (kpM n) (kpM_lt hn)
  have hSN : svN n u us3 := ⟨w4.1, w4.2.1, w4.2.2.1, w4.2.2.2.1, w4.2.2.2.2.1, fun c9 a9 b9 e9 => w4.2.2.2.2.2 c9 b9 e9⟩
  have hN0 := w4.2.2.2.2.2 0 (by decide) (by omega)
  have hN1 : nw us3 = nw u := hN0.1
  have hN2 : us3.2.1 24 = u.2.1 24 := hN0.2
  refine lv_aload_n hx hb dX2_setEdge_15 rfl (lv_at hl 0 rfl) ?_
  refine va_get (D := dd) (ci := 4) (v := .ref (ad 17)) (C := RX2) (T := TX2) (N := 7) hx hb hts (fun _ h9 => List.mem_cons_of_mem _ (List.mem_append_left _ (List.mem_append_left _ (List.mem_append_left _ (List.mem_append_left _ (List.mem_append_right _ h9)))))) hown hK hP (0) (wC_0 cy ad us3 X) rfl 0 (by decide) (hts (Cond.fieldLink RX2 10 "HeadGrid" "now" "LHeadGrid$State;") (List.mem_of_getElem? (i := 1) rfl)) (fun _ h9 => h9) rfl dX2_setEdge_16 ?_
  refine va_get (D := dd) (ci := 3) (v := .ref (ad 19)) (C := RX1) (T := TX1) (N := 7) hx hb hts (fun _ h9 => List.mem_cons_of_mem _ (List.mem_append_left _ (List.mem_append_left _ (List.mem_append_left _ (List.mem_append_right _ h9))))) hown hK hP (17) (wC_now cy ad us3 X) rfl 1 (by decide) (hts (Cond.fieldLink RX2 64 "HeadGrid$State" "edgeHeads" "[I") (List.mem_of_getElem? (i := 2) rfl)) (fun _ h9 => h9) rfl dX2_setEdge_19 ?_
  refine lv_iload_n hx hb dX2_setEdge_22 rfl (lv_at hl 1 rfl) ?_
  refine lv_iload_n hx hb dX2_setEdge_23 rfl (lv_at hl 2 rfl) ?_
  refine wc_calli (va_runS (As := [.ref (ad 19), .int (nI c0), .int v]) (rest := []) ⟨hx, hb, hml, hown, hts⟩ (c_X2_exchange l dd cy _ 19 _ 12 _ (wC_n1 cy ad us3 X) (by decide) _ c0 (by omega) v) (va_cwS 3 hts gX2_setEdge_X2_exchange rfl rfl rfl hd_X2_exchange ⟨Nat.le_of_ble_eq_true rfl, Nat.le_of_ble_eq_true rfl⟩) (wrW_S hP hK hD) rfl rfl hl.1 rfl (lv_room (Nat.le_of_ble_eq_true rfl)) dX2_setEdge_24 ⟨Nat.le_of_ble_eq_true rfl, Nat.le_of_ble_eq_true rfl⟩) hD hS hA (fun r7 g5 H locs w6 hP hD hS => ?_)
  rw [wC_sn1 cy ad us3 X g5] at hP hD
  obtain ⟨us8, hus8⟩ : ∃ z9z : CS, z9z = (va_up us3.1 19 g5, us3.2) := ⟨_, rfl⟩
  rw [← hus8] at hP hD
  have pus8_s : us8.1 (19) = g5 := by rw [hus8]; first | exact va_up_s _ _ _ | rfl
  have pus8_o : ∀ j9, j9 ≠ 19 → us8.1 j9 = us3.1 j9 := fun j9 h9 => by rw [hus8]; exact va_up_n h9
  have pus8_21 : us8.2.1 = us3.2.1 := by rw [hus8]
  have pus8_221 : us8.2.2.1 = us3.2.2.1 := by rw [hus8]
  have pus8_222 : us8.2.2.2 = us3.2.2.2 := by rw [hus8]
  have xus8 : us8.1 19 = upd (us3.1 19) c0 v := by rw [pus8_s]; exact w6.2
  exact vx_ret (W.widen (k := 2) (n := 12) (Nat.le_of_ble_eq_true rfl) (Nat.le_of_ble_eq_true rfl) (W.iret (v := r7) hx hb hr (fun t ht hW => ⟨⟨r7, us8, rfl, ⟨by rw [o1, o2]; rfl, by rw [w6.1, show point.toNatClampNeg = c0 by rw [ec0, nI_clamp (by omega)], ← hN1]; exact (nw_1 us3 (by omega)).symm, svN_keep hSN (fun c9 a9 b9 => ⟨nwB_congr (fun k9 g9 l9 => pus8_o k9 (by omega)), by rw [pus8_21]⟩) (by rw [hus8]) (by rw [hus8]) (by rw [hus8]) hok hn, by rw [show point.toNatClampNeg = c0 by rw [ec0, nI_clamp (by omega)], ← hN1]; exact nw_s1 (by omega) xus8 (fun k9 h9 => pus8_o k9 h9), by rw [pus8_21]; exact hN2⟩, by rw [ht]; exact hP, va_K.moved hW.alike hK, hD⟩, hS.F ht⟩) hS.2.2 dX2_setEdge_27))
theorem hd_X2_setRecharge : yX2_setRecharge.cls = RX2 ∧ yX2_setRecharge.cls ≠ "java/lang/invoke/MethodHandle" ∧ yX2_setRecharge.cls ≠ "java/lang/invoke/VarHandle" ∧ (parseMethodDescriptor yX2_setRecharge.desc).map (fun d => d.parameters.length) = some 2 := by decide +kernel
set_option maxHeartbeats 4000000 in
set_option maxRecDepth 100000 in
/-- X2_setRecharge -/
theorem c_X2_setRecharge (l : Launch) (hlt : l.stackTraces = false) (dd : va_G) (cy : Nat → ClassId) (ad : Nat → Nat) (X : va_W) (tt : Nat × Nat) (N : Nat → Nat) (u : CS) (sz : Nat) (n : Nat) (hn : n ≤ 4) (hok : svOk u.2.2.2.2.2.2) (h_savedCount : nI n = u.2.2.2.1) (hsI : slI u) (cell v : Int32) : vx_Met l yX2_setRecharge wsX2_setRecharge ({ frames := 7, cells := 2, slots := 12, locals := 103 }) (va_Pc [.ref (ad 0), .int cell, .int v] (wrX dd cy tt N (wC cy ad u ++ X) sz)) (va_Qi (fun r u9 => (if inR cell (nI 0) (nI 8) then (if inR v (nI 0) (nI 1000) then 0 else 2) else 1) = 0 ∧ r = nw u (36 + cell.toNatClampNeg) ∧ svN n u u9 ∧ nw u9 = upd (nw u) (36 + cell.toNatClampNeg) v ∧ u9.2.1 24 = u.2.1 24) (wB dd cy (fun u9 : CS => wC cy ad u9 ++ X) (va_A (wC cy ad u ++ X) sz)) (va_A (wC cy ad u ++ X) sz)) (vx_X (fun u9 => frP u u9) (fun E u9 t => xsE E (if inR cell (nI 0) (nI 8) then (if inR v (nI 0) (nI 1000) then 0 else 2) else 1) [xIO, xIA] ∧ wB dd cy (fun u9 : CS => wC cy ad u9 ++ X) (va_A (wC cy ad u ++ X) sz) u9 t) (va_A (wC cy ad u ++ X) sz)) 2 12 (va_A (wC cy ad u ++ X) sz) := by
  refine vx_ofW (cc := cX2_setRecharge) (maxL := 3) (ret := (some .int)) (by decide) rfl ?_
  intro p e s m args below meth c s₁ B hml hnt hv
  obtain ⟨rfl, ⟨hsz, hP, hK, hD0, hSt⟩, hE⟩ := hv
  have hx := B.exec
  have hb := B.bytes
  have hr := B.returns
  have hts := atoms_spec (ws := wsX2_setRecharge) B.pre
  have hown : s.vm.findClass RX2 = some m.cls := findClass_of_methodNamed B.named
  have hlocks := B.notSynchronized
  subst hsz
  have hD := hD0.self (sz := s.heap.size)
  generalize hAe : va_A (wC cy ad u ++ X) s.heap.size = A at hD hSt hE ⊢
  have hA : ∀ q : Nat, s.heap.size ≤ q → A q := fun q h => by rw [← hAe]; exact Or.inr h
  have hS : va_S A s.heap s.heap [] := va_S.rf
  have hl := lv_entry ([.ref (ad 0), .int cell, .int v]) (n := 3) (Nat.le_of_ble_eq_true rfl)
  rw [lg_entry_eq]
  generalize (lg_sl ([.ref (ad 0), .int cell, .int v]) ++ List.replicate (3 - (lg_sl ([.ref (ad 0), .int cell, .int v])).length) Slot.unset).toArray = ls at hl ⊢
  have hl : lv_has ls 3 [(0, .ref (ad 0)), (1, .int cell), (2, .int v)] := hl
  refine lv_iload_n hx hb dX2_setRecharge_0 rfl (lv_at hl 1 rfl) ?_
  refine wx_req (vx_runS (As := [.int cell]) (rest := []) ⟨hx, hb, hml, hown, hts⟩ (c_X2_requireCell l hlt N _ cell) (va_cwS 1 hts gX2_setRecharge_X2_requireCell rfl rfl rfl hd_X2_requireCell ⟨Nat.le_of_ble_eq_true rfl, Nat.le_of_ble_eq_true rfl⟩) (exS_S hE hS hA) rfl rfl hl.1 rfl (lv_room (Nat.le_of_ble_eq_true rfl)) dX2_setRecharge_1 ⟨Nat.le_of_ble_eq_true rfl, Nat.le_of_ble_eq_true rfl⟩) hP hS hA (fun E9 ce q9 H locs hE9 o1 hP hS hce hcv hcl => ?_) (fun H locs o1 hP hS => ?_)
  · subst hE9
    exact vx_out (fun x9 h9 => (hnt x9 h9).elim) hlocks hce hcv hcl (fun t ht hvm => ⟨u, frP_rf hsI, ⟨⟨0, by rw [o1]; rfl, rfl⟩, by rw [ht]; exact hP, va_K.moved hvm hK, hD⟩, hS.F ht⟩) hS.2.2 (Nat.le_of_ble_eq_true rfl) (Nat.le_of_ble_eq_true rfl)
  refine lv_iload_n hx hb dX2_setRecharge_4 rfl (lv_at hl 2 rfl) ?_
  refine lv_sipush (v := nI 1000) hx hb dX2_setRecharge_5 (by decide) ?_
  refine wx_req (vx_runS (As := [.int v, .int (nI 1000)]) (rest := []) ⟨hx, hb, hml, hown, hts⟩ (c_X2_requireRange l hlt N _ v 1000) (va_cwS 2 hts gX2_setRecharge_X2_requireRange rfl rfl rfl hd_X2_requireRange ⟨Nat.le_of_ble_eq_true rfl, Nat.le_of_ble_eq_true rfl⟩) (exS_S hE hS hA) rfl rfl hl.1 rfl (lv_room (Nat.le_of_ble_eq_true rfl)) dX2_setRecharge_8 ⟨Nat.le_of_ble_eq_true rfl, Nat.le_of_ble_eq_true rfl⟩) hP hS hA (fun E9 ce q9 H locs hE9 o2 hP hS hce hcv hcl => ?_) (fun H locs o2 hP hS => ?_)
  · subst hE9
    exact vx_out (fun x9 h9 => (hnt x9 h9).elim) hlocks hce hcv hcl (fun t ht hvm => ⟨u, frP_rf hsI, ⟨⟨1, by rw [o1, o2]; rfl, rfl⟩, by rw [ht]; exact hP, va_K.moved hvm hK, hD⟩, hS.F ht⟩) hS.2.2 (Nat.le_of_ble_eq_true rfl) (Nat.le_of_ble_eq_true rfl)
  obtain ⟨c0, hc0, ec0⟩ := inR_nat (n := 8) (by decide) o1
  have hl : lv_has ls 3 [(0, .ref (ad 0)), (1, .int (nI c0)), (2, .int v)] := by rw [← ec0]; exact hl
  refine lv_aload_n hx hb dX2_setRecharge_11 rfl (lv_at hl 0 rfl) ?_
  refine wc_callv (va_runV (As := []) (rest := []) ⟨hx, hb, hml, hown, hts⟩ (c_X2_saveNow l dd cy ad X tt u _ n hn hok h_savedCount) (cwV 0 hts gX2_setRecharge_X2_saveNow rfl rfl rfl hd_X2_saveNow ⟨Nat.le_of_ble_eq_true rfl, Nat.le_of_ble_eq_true rfl⟩) (wrC_V hP hK hD hSt hS hA (wC_0 cy ad u X) rfl) rfl rfl hl.1 rfl (lv_room (Nat.le_of_ble_eq_true rfl)) dX2_setRecharge_12 ⟨Nat.le_of_ble_eq_true rfl, Nat.le_of_ble_eq_true rfl⟩) hD hS hA (fun us3 H locs w4 hP hD hS => ?_)
  have hR9 := (rotS_ok (n := n) hok).1 (kpM n) (kpM_lt hn)
  have hSN : svN n u us3 := ⟨w4.1, w4.2.1, w4.2.2.1, w4.2.2.2.1, w4.2.2.2.2.1, fun c9 a9 b9 e9 => w4.2.2.2.2.2 c9 b9 e9⟩
  have hN0 := w4.2.2.2.2.2 0 (by decide) (by omega)
  have hN1 : nw us3 = nw u := hN0.1
  have hN2 : us3.2.1 24 = u.2.1 24 := hN0.2
  refine lv_aload_n hx hb dX2_setRecharge_15 rfl (lv_at hl 0 rfl) ?_
  refine va_get (D := dd) (ci := 4) (v := .ref (ad 17)) (C := RX2) (T := TX2) (N := 7) hx hb hts (fun _ h9 => List.mem_cons_of_mem _ (List.mem_append_left _ (List.mem_append_left _ (List.mem_append_left _ (List.mem_append_left _ (List.mem_append_right _ h9)))))) hown hK hP (0) (wC_0 cy ad us3 X) rfl 0 (by decide) (hts (Cond.fieldLink RX2 10 "HeadGrid" "now" "LHeadGrid$State;") (List.mem_of_getElem? (i := 1) rfl)) (fun _ h9 => h9) rfl dX2_setRecharge_16 ?_
  refine va_get (D := dd) (ci := 3) (v := .ref (ad 20)) (C := RX1) (T := TX1) (N := 7) hx hb hts (fun _ h9 => List.mem_cons_of_mem _ (List.mem_append_left _ (List.mem_append_left _ (List.mem_append_left _ (List.mem_append_right _ h9))))) hown hK hP (17) (wC_now cy ad us3 X) rfl 2 (by decide) (hts (Cond.fieldLink RX2 70 "HeadGrid$State" "recharges" "[I") (List.mem_of_getElem? (i := 2) rfl)) (fun _ h9 => h9) rfl dX2_setRecharge_19 ?_
  refine lv_iload_n hx hb dX2_setRecharge_22 rfl (lv_at hl 1 rfl) ?_
  refine lv_iload_n hx hb dX2_setRecharge_23 rfl (lv_at hl 2 rfl) ?_
  refine wc_calli (va_runS (As := [.ref (ad 20), .int (nI c0), .int v]) (rest := []) ⟨hx, hb, hml, hown, hts⟩ (c_X2_exchange l dd cy _ 20 _ 9 _ (wC_n2 cy ad us3 X) (by decide) _ c0 (by omega) v) (va_cwS 3 hts gX2_setRecharge_X2_exchange rfl rfl rfl hd_X2_exchange ⟨Nat.le_of_ble_eq_true rfl, Nat.le_of_ble_eq_true rfl⟩) (wrW_S hP hK hD) rfl rfl hl.1 rfl (lv_room (Nat.le_of_ble_eq_true rfl)) dX2_setRecharge_24 ⟨Nat.le_of_ble_eq_true rfl, Nat.le_of_ble_eq_true rfl⟩) hD hS hA (fun r7 g5 H locs w6 hP hD hS => ?_)
  rw [wC_sn2 cy ad us3 X g5] at hP hD
  obtain ⟨us8, hus8⟩ : ∃ z9z : CS, z9z = (va_up us3.1 20 g5, us3.2) := ⟨_, rfl⟩
  rw [← hus8] at hP hD
  have pus8_s : us8.1 (20) = g5 := by rw [hus8]; first | exact va_up_s _ _ _ | rfl
  have pus8_o : ∀ j9, j9 ≠ 20 → us8.1 j9 = us3.1 j9 := fun j9 h9 => by rw [hus8]; exact va_up_n h9
  have pus8_21 : us8.2.1 = us3.2.1 := by rw [hus8]
  have pus8_221 : us8.2.2.1 = us3.2.2.1 := by rw [hus8]
  have pus8_222 : us8.2.2.2 = us3.2.2.2 := by rw [hus8]
  have xus8 : us8.1 20 = upd (us3.1 20) c0 v := by rw [pus8_s]; exact w6.2
  exact vx_ret (W.widen (k := 2) (n := 12) (Nat.le_of_ble_eq_true rfl) (Nat.le_of_ble_eq_true rfl) (W.iret (v := r7) hx hb hr (fun t ht hW => ⟨⟨r7, us8, rfl, ⟨by rw [o1, o2]; rfl, by rw [w6.1, show cell.toNatClampNeg = c0 by rw [ec0, nI_clamp (by omega)], ← hN1]; exact (nw_2 us3 (by omega)).symm, svN_keep hSN (fun c9 a9 b9 => ⟨nwB_congr (fun k9 g9 l9 => pus8_o k9 (by omega)), by rw [pus8_21]⟩) (by rw [hus8]) (by rw [hus8]) (by rw [hus8]) hok hn, by rw [show cell.toNatClampNeg = c0 by rw [ec0, nI_clamp (by omega)], ← hN1]; exact nw_s2 (by omega) xus8 (fun k9 h9 => pus8_o k9 h9), by rw [pus8_21]; exact hN2⟩, by rw [ht]; exact hP, va_K.moved hW.alike hK, hD⟩, hS.F ht⟩) hS.2.2 dX2_setRecharge_27))
theorem hd_X2_setRate : yX2_setRate.cls = RX2 ∧ yX2_setRate.cls ≠ "java/lang/invoke/MethodHandle" ∧ yX2_setRate.cls ≠ "java/lang/invoke/VarHandle" ∧ (parseMethodDescriptor yX2_setRate.desc).map (fun d => d.parameters.length) = some 2 := by decide +kernel
set_option maxHeartbeats 4000000 in
set_option maxRecDepth 100000 in
/-- X2_setRate -/
theorem c_X2_setRate (l : Launch) (hlt : l.stackTraces = false) (dd : va_G) (cy : Nat → ClassId) (ad : Nat → Nat) (X : va_W) (tt : Nat × Nat) (N : Nat → Nat) (u : CS) (sz : Nat) (n : Nat) (hn : n ≤ 4) (hok : svOk u.2.2.2.2.2.2) (h_savedCount : nI n = u.2.2.2.1) (hsI : slI u) (cell v : Int32) : vx_Met l yX2_setRate wsX2_setRate ({ frames := 7, cells := 2, slots := 12, locals := 103 }) (va_Pc [.ref (ad 0), .int cell, .int v] (wrX dd cy tt N (wC cy ad u ++ X) sz)) (va_Qi (fun r u9 => (if inR cell (nI 0) (nI 8) then (if inR v (nI 0) (nI 1000) then 0 else 2) else 1) = 0 ∧ r = nw u (45 + cell.toNatClampNeg) ∧ svN n u u9 ∧ nw u9 = upd (nw u) (45 + cell.toNatClampNeg) v ∧ u9.2.1 24 = u.2.1 24) (wB dd cy (fun u9 : CS => wC cy ad u9 ++ X) (va_A (wC cy ad u ++ X) sz)) (va_A (wC cy ad u ++ X) sz)) (vx_X (fun u9 => frP u u9) (fun E u9 t => xsE E (if inR cell (nI 0) (nI 8) then (if inR v (nI 0) (nI 1000) then 0 else 2) else 1) [xIO, xIA] ∧ wB dd cy (fun u9 : CS => wC cy ad u9 ++ X) (va_A (wC cy ad u ++ X) sz) u9 t) (va_A (wC cy ad u ++ X) sz)) 2 12 (va_A (wC cy ad u ++ X) sz) := by
  refine vx_ofW (cc := cX2_setRate) (maxL := 3) (ret := (some .int)) (by decide) rfl ?_
  intro p e s m args below meth c s₁ B hml hnt hv
  obtain ⟨rfl, ⟨hsz, hP, hK, hD0, hSt⟩, hE⟩ := hv
  have hx := B.exec
  have hb := B.bytes
  have hr := B.returns
  have hts := atoms_spec (ws := wsX2_setRate) B.pre
  have hown : s.vm.findClass RX2 = some m.cls := findClass_of_methodNamed B.named
  have hlocks := B.notSynchronized
  subst hsz
  have hD := hD0.self (sz := s.heap.size)
  generalize hAe : va_A (wC cy ad u ++ X) s.heap.size = A at hD hSt hE ⊢
  have hA : ∀ q : Nat, s.heap.size ≤ q → A q := fun q h => by rw [← hAe]; exact Or.inr h
  have hS : va_S A s.heap s.heap [] := va_S.rf
  have hl := lv_entry ([.ref (ad 0), .int cell, .int v]) (n := 3) (Nat.le_of_ble_eq_true rfl)
  rw [lg_entry_eq]
  generalize (lg_sl ([.ref (ad 0), .int cell, .int v]) ++ List.replicate (3 - (lg_sl ([.ref (ad 0), .int cell, .int v])).length) Slot.unset).toArray = ls at hl ⊢
  have hl : lv_has ls 3 [(0, .ref (ad 0)), (1, .int cell), (2, .int v)] := hl
  refine lv_iload_n hx hb dX2_setRate_0 rfl (lv_at hl 1 rfl) ?_
  refine wx_req (vx_runS (As := [.int cell]) (rest := []) ⟨hx, hb, hml, hown, hts⟩ (c_X2_requireCell l hlt N _ cell) (va_cwS 1 hts gX2_setRate_X2_requireCell rfl rfl rfl hd_X2_requireCell ⟨Nat.le_of_ble_eq_true rfl, Nat.le_of_ble_eq_true rfl⟩) (exS_S hE hS hA) rfl rfl hl.1 rfl (lv_room (Nat.le_of_ble_eq_true rfl)) dX2_setRate_1 ⟨Nat.le_of_ble_eq_true rfl, Nat.le_of_ble_eq_true rfl⟩) hP hS hA (fun E9 ce q9 H locs hE9 o1 hP hS hce hcv hcl => ?_) (fun H locs o1 hP hS => ?_)
  · subst hE9
    exact vx_out (fun x9 h9 => (hnt x9 h9).elim) hlocks hce hcv hcl (fun t ht hvm => ⟨u, frP_rf hsI, ⟨⟨0, by rw [o1]; rfl, rfl⟩, by rw [ht]; exact hP, va_K.moved hvm hK, hD⟩, hS.F ht⟩) hS.2.2 (Nat.le_of_ble_eq_true rfl) (Nat.le_of_ble_eq_true rfl)
  refine lv_iload_n hx hb dX2_setRate_4 rfl (lv_at hl 2 rfl) ?_
  refine lv_sipush (v := nI 1000) hx hb dX2_setRate_5 (by decide) ?_
  refine wx_req (vx_runS (As := [.int v, .int (nI 1000)]) (rest := []) ⟨hx, hb, hml, hown, hts⟩ (c_X2_requireRange l hlt N _ v 1000) (va_cwS 2 hts gX2_setRate_X2_requireRange rfl rfl rfl hd_X2_requireRange ⟨Nat.le_of_ble_eq_true rfl, Nat.le_of_ble_eq_true rfl⟩) (exS_S hE hS hA) rfl rfl hl.1 rfl (lv_room (Nat.le_of_ble_eq_true rfl)) dX2_setRate_8 ⟨Nat.le_of_ble_eq_true rfl, Nat.le_of_ble_eq_true rfl⟩) hP hS hA (fun E9 ce q9 H locs hE9 o2 hP hS hce hcv hcl => ?_) (fun H locs o2 hP hS => ?_)
  · subst hE9
    exact vx_out (fun x9 h9 => (hnt x9 h9).elim) hlocks hce hcv hcl (fun t ht hvm => ⟨u, frP_rf hsI, ⟨⟨1, by rw [o1, o2]; rfl, rfl⟩, by rw [ht]; exact hP, va_K.moved hvm hK, hD⟩, hS.F ht⟩) hS.2.2 (Nat.le_of_ble_eq_true rfl) (Nat.le_of_ble_eq_true rfl)
  obtain ⟨c0, hc0, ec0⟩ := inR_nat (n := 8) (by decide) o1
  have hl : lv_has ls 3 [(0, .ref (ad 0)), (1, .int (nI c0)), (2, .int v)] := by rw [← ec0]; exact hl
  refine lv_aload_n hx hb dX2_setRate_11 rfl (lv_at hl 0 rfl) ?_
  refine wc_callv (va_runV (As := []) (rest := []) ⟨hx, hb, hml, hown, hts⟩ (c_X2_saveNow l dd cy ad X tt u _ n hn hok h_savedCount) (cwV 0 hts gX2_setRate_X2_saveNow rfl rfl rfl hd_X2_saveNow ⟨Nat.le_of_ble_eq_true rfl, Nat.le_of_ble_eq_true rfl⟩) (wrC_V hP hK hD hSt hS hA (wC_0 cy ad u X) rfl) rfl rfl hl.1 rfl (lv_room (Nat.le_of_ble_eq_true rfl)) dX2_setRate_12 ⟨Nat.le_of_ble_eq_true rfl, Nat.le_of_ble_eq_true rfl⟩) hD hS hA (fun us3 H locs w4 hP hD hS => ?_)
  have hR9 := (rotS_ok (n := n) hok).1 (kpM n) (kpM_lt hn)
  have hSN : svN n u us3 := ⟨w4.1, w4.2.1, w4.2.2.1, w4.2.2.2.1, w4.2.2.2.2.1, fun c9 a9 b9 e9 => w4.2.2.2.2.2 c9 b9 e9⟩
  have hN0 := w4.2.2.2.2.2 0 (by decide) (by omega)
  have hN1 : nw us3 = nw u := hN0.1
  have hN2 : us3.2.1 24 = u.2.1 24 := hN0.2
  refine lv_aload_n hx hb dX2_setRate_15 rfl (lv_at hl 0 rfl) ?_
  refine va_get (D := dd) (ci := 4) (v := .ref (ad 17)) (C := RX2) (T := TX2) (N := 7) hx hb hts (fun _ h9 => List.mem_cons_of_mem _ (List.mem_append_left _ (List.mem_append_left _ (List.mem_append_left _ (List.mem_append_left _ (List.mem_append_right _ h9)))))) hown hK hP (0) (wC_0 cy ad us3 X) rfl 0 (by decide) (hts (Cond.fieldLink RX2 10 "HeadGrid" "now" "LHeadGrid$State;") (List.mem_of_getElem? (i := 1) rfl)) (fun _ h9 => h9) rfl dX2_setRate_16 ?_
  refine va_get (D := dd) (ci := 3) (v := .ref (ad 21)) (C := RX1) (T := TX1) (N := 7) hx hb hts (fun _ h9 => List.mem_cons_of_mem _ (List.mem_append_left _ (List.mem_append_left _ (List.mem_append_left _ (List.mem_append_right _ h9))))) hown hK hP (17) (wC_now cy ad us3 X) rfl 3 (by decide) (hts (Cond.fieldLink RX2 73 "HeadGrid$State" "rates" "[I") (List.mem_of_getElem? (i := 2) rfl)) (fun _ h9 => h9) rfl dX2_setRate_19 ?_
  refine lv_iload_n hx hb dX2_setRate_22 rfl (lv_at hl 1 rfl) ?_
  refine lv_iload_n hx hb dX2_setRate_23 rfl (lv_at hl 2 rfl) ?_
  refine wc_calli (va_runS (As := [.ref (ad 21), .int (nI c0), .int v]) (rest := []) ⟨hx, hb, hml, hown, hts⟩ (c_X2_exchange l dd cy _ 21 _ 9 _ (wC_n3 cy ad us3 X) (by decide) _ c0 (by omega) v) (va_cwS 3 hts gX2_setRate_X2_exchange rfl rfl rfl hd_X2_exchange ⟨Nat.le_of_ble_eq_true rfl, Nat.le_of_ble_eq_true rfl⟩) (wrW_S hP hK hD) rfl rfl hl.1 rfl (lv_room (Nat.le_of_ble_eq_true rfl)) dX2_setRate_24 ⟨Nat.le_of_ble_eq_true rfl, Nat.le_of_ble_eq_true rfl⟩) hD hS hA (fun r7 g5 H locs w6 hP hD hS => ?_)
  rw [wC_sn3 cy ad us3 X g5] at hP hD
  obtain ⟨us8, hus8⟩ : ∃ z9z : CS, z9z = (va_up us3.1 21 g5, us3.2) := ⟨_, rfl⟩
  rw [← hus8] at hP hD
  have pus8_s : us8.1 (21) = g5 := by rw [hus8]; first | exact va_up_s _ _ _ | rfl
  have pus8_o : ∀ j9, j9 ≠ 21 → us8.1 j9 = us3.1 j9 := fun j9 h9 => by rw [hus8]; exact va_up_n h9
  have pus8_21 : us8.2.1 = us3.2.1 := by rw [hus8]
  have pus8_221 : us8.2.2.1 = us3.2.2.1 := by rw [hus8]
  have pus8_222 : us8.2.2.2 = us3.2.2.2 := by rw [hus8]
  have xus8 : us8.1 21 = upd (us3.1 21) c0 v := by rw [pus8_s]; exact w6.2
  exact vx_ret (W.widen (k := 2) (n := 12) (Nat.le_of_ble_eq_true rfl) (Nat.le_of_ble_eq_true rfl) (W.iret (v := r7) hx hb hr (fun t ht hW => ⟨⟨r7, us8, rfl, ⟨by rw [o1, o2]; rfl, by rw [w6.1, show cell.toNatClampNeg = c0 by rw [ec0, nI_clamp (by omega)], ← hN1]; exact (nw_3 us3 (by omega)).symm, svN_keep hSN (fun c9 a9 b9 => ⟨nwB_congr (fun k9 g9 l9 => pus8_o k9 (by omega)), by rw [pus8_21]⟩) (by rw [hus8]) (by rw [hus8]) (by rw [hus8]) hok hn, by rw [show cell.toNatClampNeg = c0 by rw [ec0, nI_clamp (by omega)], ← hN1]; exact nw_s3 (by omega) xus8 (fun k9 h9 => pus8_o k9 h9), by rw [pus8_21]; exact hN2⟩, by rw [ht]; exact hP, va_K.moved hW.alike hK, hD⟩, hS.F ht⟩) hS.2.2 dX2_setRate_27))
theorem hd_X2_setLevels : yX2_setLevels.cls = RX2 ∧ yX2_setLevels.cls ≠ "java/lang/invoke/MethodHandle" ∧ yX2_setLevels.cls ≠ "java/lang/invoke/VarHandle" ∧ (parseMethodDescriptor yX2_setLevels.desc).map (fun d => d.parameters.length) = some 3 := by decide +kernel
set_option maxHeartbeats 4000000 in
set_option maxRecDepth 100000 in
/-- setLevels -/
theorem c_X2_setLevels (l : Launch) (hlt : l.stackTraces = false) (dd : va_G) (cy : Nat → ClassId) (ad : Nat → Nat) (X : va_W) (tt : Nat × Nat) (N : Nat → Nat) (u : CS) (sz : Nat) (n : Nat) (hn : n ≤ 4) (hok : svOk u.2.2.2.2.2.2) (h_savedCount : nI n = u.2.2.2.1) (hsI : slI u) (cell v v2 : Int32) : vx_Met l yX2_setLevels wsX2_setLevels ({ frames := 7, cells := 3, slots := 18, locals := 103 }) (va_Pc [.ref (ad 0), .int cell, .int v, .int v2] (wrX dd cy tt N (wC cy ad u ++ X) sz)) (va_Qi (fun r u9 => (if inR cell (nI 0) (nI 8) then (if inR v (nI 0) (nI 1000) && inR v2 (nI 0) (nI 1000) then 0 else 2) else 1) = 0 ∧ r = nw u (63 + cell.toNatClampNeg) ∧ svN n u u9 ∧ nw u9 = upd (upd (nw u) (63 + cell.toNatClampNeg) v2) (54 + cell.toNatClampNeg) v ∧ u9.2.1 24 = u.2.1 24) (wB dd cy (fun u9 : CS => wC cy ad u9 ++ X) (va_A (wC cy ad u ++ X) sz)) (va_A (wC cy ad u ++ X) sz)) (vx_X (fun u9 => frP u u9) (fun E u9 t => xsE E (if inR cell (nI 0) (nI 8) then (if inR v (nI 0) (nI 1000) && inR v2 (nI 0) (nI 1000) then 0 else 2) else 1) [xIO, xIA] ∧ wB dd cy (fun u9 : CS => wC cy ad u9 ++ X) (va_A (wC cy ad u ++ X) sz) u9 t) (va_A (wC cy ad u ++ X) sz)) 3 18 (va_A (wC cy ad u ++ X) sz) := by
  refine vx_ofW (cc := cX2_setLevels) (maxL := 4) (ret := (some .int)) (by decide) rfl ?_
  intro p e s m args below meth c s₁ B hml hnt hv
  obtain ⟨rfl, ⟨hsz, hP, hK, hD0, hSt⟩, hE⟩ := hv
  have hx := B.exec
  have hb := B.bytes
  have hr := B.returns
  have hts := atoms_spec (ws := wsX2_setLevels) B.pre
  have hown : s.vm.findClass RX2 = some m.cls := findClass_of_methodNamed B.named
  have hlocks := B.notSynchronized
  subst hsz
  have hD := hD0.self (sz := s.heap.size)
  generalize hAe : va_A (wC cy ad u ++ X) s.heap.size = A at hD hSt hE ⊢
  have hA : ∀ q : Nat, s.heap.size ≤ q → A q := fun q h => by rw [← hAe]; exact Or.inr h
  have hS : va_S A s.heap s.heap [] := va_S.rf
  have hl := lv_entry ([.ref (ad 0), .int cell, .int v, .int v2]) (n := 4) (Nat.le_of_ble_eq_true rfl)
  rw [lg_entry_eq]
  generalize (lg_sl ([.ref (ad 0), .int cell, .int v, .int v2]) ++ List.replicate (4 - (lg_sl ([.ref (ad 0), .int cell, .int v, .int v2])).length) Slot.unset).toArray = ls at hl ⊢
  have hl : lv_has ls 4 [(0, .ref (ad 0)), (1, .int cell), (2, .int v), (3, .int v2)] := hl
  refine lv_iload_n hx hb dX2_setLevels_0 rfl (lv_at hl 1 rfl) ?_
  refine wx_req (vx_runS (As := [.int cell]) (rest := []) ⟨hx, hb, hml, hown, hts⟩ (c_X2_requireCell l hlt N _ cell) (va_cwS 1 hts gX2_setLevels_X2_requireCell rfl rfl rfl hd_X2_requireCell ⟨Nat.le_of_ble_eq_true rfl, Nat.le_of_ble_eq_true rfl⟩) (exS_S hE hS hA) rfl rfl hl.1 rfl (lv_room (Nat.le_of_ble_eq_true rfl)) dX2_setLevels_1 ⟨Nat.le_of_ble_eq_true rfl, Nat.le_of_ble_eq_true rfl⟩) hP hS hA (fun E9 ce q9 H locs hE9 o1 hP hS hce hcv hcl => ?_) (fun H locs o1 hP hS => ?_)
  · subst hE9
    exact vx_out (fun x9 h9 => (hnt x9 h9).elim) hlocks hce hcv hcl (fun t ht hvm => ⟨u, frP_rf hsI, ⟨⟨0, by rw [o1]; first | rfl | simp, rfl⟩, by rw [ht]; exact hP, va_K.moved hvm hK, hD⟩, hS.F ht⟩) hS.2.2 (Nat.le_of_ble_eq_true rfl) (Nat.le_of_ble_eq_true rfl)
  refine lv_iload_n hx hb dX2_setLevels_4 rfl (lv_at hl 2 rfl) ?_
  refine lv_sipush (v := nI 1000) hx hb dX2_setLevels_5 (by decide) ?_
  refine wx_req (vx_runS (As := [.int v, .int (nI 1000)]) (rest := []) ⟨hx, hb, hml, hown, hts⟩ (c_X2_requireRange l hlt N _ v 1000) (va_cwS 2 hts gX2_setLevels_X2_requireRange rfl rfl rfl hd_X2_requireRange ⟨Nat.le_of_ble_eq_true rfl, Nat.le_of_ble_eq_true rfl⟩) (exS_S hE hS hA) rfl rfl hl.1 rfl (lv_room (Nat.le_of_ble_eq_true rfl)) dX2_setLevels_8 ⟨Nat.le_of_ble_eq_true rfl, Nat.le_of_ble_eq_true rfl⟩) hP hS hA (fun E9 ce q9 H locs hE9 o2 hP hS hce hcv hcl => ?_) (fun H locs o2 hP hS => ?_)
  · subst hE9
    exact vx_out (fun x9 h9 => (hnt x9 h9).elim) hlocks hce hcv hcl (fun t ht hvm => ⟨u, frP_rf hsI, ⟨⟨1, by rw [o1, o2]; first | rfl | simp, rfl⟩, by rw [ht]; exact hP, va_K.moved hvm hK, hD⟩, hS.F ht⟩) hS.2.2 (Nat.le_of_ble_eq_true rfl) (Nat.le_of_ble_eq_true rfl)
  refine lv_iload_n hx hb dX2_setLevels_11 rfl (lv_at hl 3 rfl) ?_
  refine lv_sipush (v := nI 1000) hx hb dX2_setLevels_12 (by decide) ?_
  refine wx_req (vx_runS (As := [.int v2, .int (nI 1000)]) (rest := []) ⟨hx, hb, hml, hown, hts⟩ (c_X2_requireRange l hlt N _ v2 1000) (va_cwS 2 hts gX2_setLevels_X2_requireRange rfl rfl rfl hd_X2_requireRange ⟨Nat.le_of_ble_eq_true rfl, Nat.le_of_ble_eq_true rfl⟩) (exS_S hE hS hA) rfl rfl hl.1 rfl (lv_room (Nat.le_of_ble_eq_true rfl)) dX2_setLevels_15 ⟨Nat.le_of_ble_eq_true rfl, Nat.le_of_ble_eq_true rfl⟩) hP hS hA (fun E9 ce q9 H locs hE9 o3 hP hS hce hcv hcl => ?_) (fun H locs o3 hP hS => ?_)
  · subst hE9
    exact vx_out (fun x9 h9 => (hnt x9 h9).elim) hlocks hce hcv hcl (fun t ht hvm => ⟨u, frP_rf hsI, ⟨⟨1, by rw [o1, o2, o3]; first | rfl | simp, rfl⟩, by rw [ht]; exact hP, va_K.moved hvm hK, hD⟩, hS.F ht⟩) hS.2.2 (Nat.le_of_ble_eq_true rfl) (Nat.le_of_ble_eq_true rfl)
  obtain ⟨c0, hc0, ec0⟩ := inR_nat (n := 8) (by decide) o1
  have hl : lv_has ls 4 [(0, .ref (ad 0)), (1, .int (nI c0)), (2, .int v), (3, .int v2)] := by rw [← ec0]; exact hl
  refine lv_aload_n hx hb dX2_setLevels_18 rfl (lv_at hl 0 rfl) ?_
  refine wc_callv (va_runV (As := []) (rest := []) ⟨hx, hb, hml, hown, hts⟩ (c_X2_saveNow l dd cy ad X tt u _ n hn hok h_savedCount) (cwV 0 hts gX2_setLevels_X2_saveNow rfl rfl rfl hd_X2_saveNow ⟨Nat.le_of_ble_eq_true rfl, Nat.le_of_ble_eq_true rfl⟩) (wrC_V hP hK hD hSt hS hA (wC_0 cy ad u X) rfl) rfl rfl hl.1 rfl (lv_room (Nat.le_of_ble_eq_true rfl)) dX2_setLevels_19 ⟨Nat.le_of_ble_eq_true rfl, Nat.le_of_ble_eq_true rfl⟩) hD hS hA (fun us4 H locs w5 hP hD hS => ?_)
  have hR9 := (rotS_ok (n := n) hok).1 (kpM n) (kpM_lt hn)
  have hSN : svN n u us4 := ⟨w5.1, w5.2.1, w5.2.2.1, w5.2.2.2.1, w5.2.2.2.2.1, fun c9 a9 b9 e9 => w5.2.2.2.2.2 c9 b9 e9⟩
  have hN0 := w5.2.2.2.2.2 0 (by decide) (by omega)
  have hN1 : nw us4 = nw u := hN0.1
  have hN2 : us4.2.1 24 = u.2.1 24 := hN0.2
  refine lv_aload_n hx hb dX2_setLevels_22 rfl (lv_at hl 0 rfl) ?_
  refine va_get (D := dd) (ci := 4) (v := .ref (ad 17)) (C := RX2) (T := TX2) (N := 7) hx hb hts (fun _ h9 => List.mem_cons_of_mem _ (List.mem_append_left _ (List.mem_append_left _ (List.mem_append_left _ (List.mem_append_left _ (List.mem_append_right _ h9)))))) hown hK hP (0) (wC_0 cy ad us4 X) rfl 0 (by decide) (hts (Cond.fieldLink RX2 10 "HeadGrid" "now" "LHeadGrid$State;") (List.mem_of_getElem? (i := 1) rfl)) (fun _ h9 => h9) rfl dX2_setLevels_23 ?_
  refine va_get (D := dd) (ci := 3) (v := .ref (ad 22)) (C := RX1) (T := TX1) (N := 7) hx hb hts (fun _ h9 => List.mem_cons_of_mem _ (List.mem_append_left _ (List.mem_append_left _ (List.mem_append_left _ (List.mem_append_right _ h9))))) hown hK hP (17) (wC_now cy ad us4 X) rfl 4 (by decide) (hts (Cond.fieldLink RX2 76 "HeadGrid$State" "floors" "[I") (List.mem_of_getElem? (i := 2) rfl)) (fun _ h9 => h9) rfl dX2_setLevels_26 ?_
  refine lv_iload_n hx hb dX2_setLevels_29 rfl (lv_at hl 1 rfl) ?_
  refine lv_iload_n hx hb dX2_setLevels_30 rfl (lv_at hl 2 rfl) ?_
  refine wc_calli (va_runS (As := [.ref (ad 22), .int (nI c0), .int v]) (rest := []) ⟨hx, hb, hml, hown, hts⟩ (c_X2_exchange l dd cy _ 22 _ 9 _ (wC_n4 cy ad us4 X) (by decide) _ c0 (by omega) v) (va_cwS 3 hts gX2_setLevels_X2_exchange rfl rfl rfl hd_X2_exchange ⟨Nat.le_of_ble_eq_true rfl, Nat.le_of_ble_eq_true rfl⟩) (wrW_S hP hK hD) rfl rfl hl.1 rfl (lv_room (Nat.le_of_ble_eq_true rfl)) dX2_setLevels_31 ⟨Nat.le_of_ble_eq_true rfl, Nat.le_of_ble_eq_true rfl⟩) hD hS hA (fun r8 g6 H locs w7 hP hD hS => ?_)
  rw [wC_sn4 cy ad us4 X g6] at hP hD
  obtain ⟨us9, hus9⟩ : ∃ z9z : CS, z9z = (va_up us4.1 22 g6, us4.2) := ⟨_, rfl⟩
  rw [← hus9] at hP hD
  have pus9_s : us9.1 (22) = g6 := by rw [hus9]; first | exact va_up_s _ _ _ | rfl
  have pus9_o : ∀ j9, j9 ≠ 22 → us9.1 j9 = us4.1 j9 := fun j9 h9 => by rw [hus9]; exact va_up_n h9
  have pus9_21 : us9.2.1 = us4.2.1 := by rw [hus9]
  have pus9_221 : us9.2.2.1 = us4.2.2.1 := by rw [hus9]
  have pus9_222 : us9.2.2.2 = us4.2.2.2 := by rw [hus9]
  have xus9 : us9.1 22 = upd (us4.1 22) c0 v := by rw [pus9_s]; exact w7.2
  refine lv_pop hx hb dX2_setLevels_34 rfl ?_
  refine lv_aload_n hx hb dX2_setLevels_35 rfl (lv_at hl 0 rfl) ?_
  refine va_get (D := dd) (ci := 4) (v := .ref (ad 17)) (C := RX2) (T := TX2) (N := 7) hx hb hts (fun _ h9 => List.mem_cons_of_mem _ (List.mem_append_left _ (List.mem_append_left _ (List.mem_append_left _ (List.mem_append_left _ (List.mem_append_right _ h9)))))) hown hK hP (0) (wC_0 cy ad us9 X) rfl 0 (by decide) (hts (Cond.fieldLink RX2 10 "HeadGrid" "now" "LHeadGrid$State;") (List.mem_of_getElem? (i := 1) rfl)) (fun _ h9 => h9) rfl dX2_setLevels_36 ?_
  refine va_get (D := dd) (ci := 3) (v := .ref (ad 23)) (C := RX1) (T := TX1) (N := 7) hx hb hts (fun _ h9 => List.mem_cons_of_mem _ (List.mem_append_left _ (List.mem_append_left _ (List.mem_append_left _ (List.mem_append_right _ h9))))) hown hK hP (17) (wC_now cy ad us9 X) rfl 5 (by decide) (hts (Cond.fieldLink RX2 79 "HeadGrid$State" "limits" "[I") (List.mem_of_getElem? (i := 3) rfl)) (fun _ h9 => h9) rfl dX2_setLevels_39 ?_
  refine lv_iload_n hx hb dX2_setLevels_42 rfl (lv_at hl 1 rfl) ?_
  refine lv_iload_n hx hb dX2_setLevels_43 rfl (lv_at hl 3 rfl) ?_
  refine wc_calli (va_runS (As := [.ref (ad 23), .int (nI c0), .int v2]) (rest := []) ⟨hx, hb, hml, hown, hts⟩ (c_X2_exchange l dd cy _ 23 _ 9 _ (wC_n5 cy ad us9 X) (by decide) _ c0 (by omega) v2) (va_cwS 3 hts gX2_setLevels_X2_exchange rfl rfl rfl hd_X2_exchange ⟨Nat.le_of_ble_eq_true rfl, Nat.le_of_ble_eq_true rfl⟩) (wrW_S hP hK hD) rfl rfl hl.1 rfl (lv_room (Nat.le_of_ble_eq_true rfl)) dX2_setLevels_44 ⟨Nat.le_of_ble_eq_true rfl, Nat.le_of_ble_eq_true rfl⟩) hD hS hA (fun r12 g10 H locs w11 hP hD hS => ?_)
  rw [wC_sn5 cy ad us9 X g10] at hP hD
  obtain ⟨us13, hus13⟩ : ∃ z9z : CS, z9z = (va_up us9.1 23 g10, us9.2) := ⟨_, rfl⟩
  rw [← hus13] at hP hD
  have pus13_s : us13.1 (23) = g10 := by rw [hus13]; first | exact va_up_s _ _ _ | rfl
  have pus13_o : ∀ j9, j9 ≠ 23 → us13.1 j9 = us9.1 j9 := fun j9 h9 => by rw [hus13]; exact va_up_n h9
  have pus13_21 : us13.2.1 = us9.2.1 := by rw [hus13]
  have pus13_221 : us13.2.2.1 = us9.2.2.1 := by rw [hus13]
  have pus13_222 : us13.2.2.2 = us9.2.2.2 := by rw [hus13]
  have xus13 : us13.1 23 = upd (us9.1 23) c0 v2 := by rw [pus13_s]; exact w11.2
  exact vx_ret (W.widen (k := 3) (n := 18) (Nat.le_of_ble_eq_true rfl) (Nat.le_of_ble_eq_true rfl) (W.iret (v := r12) hx hb hr (fun t ht hW => ⟨⟨r12, us13, rfl, ⟨by rw [o1, o2, o3]; rfl, by rw [w11.1, show cell.toNatClampNeg = c0 by rw [ec0, nI_clamp (by omega)], ← hN1, pus9_o 23 (by decide)]; exact (nw_5 us4 (by omega)).symm, svN_keep hSN (fun c9 a9 b9 => ⟨nwB_congr (fun k9 g9 l9 => (pus13_o k9 (by omega)).trans (pus9_o k9 (by omega))), by rw [pus13_21, pus9_21]⟩) (by rw [hus13]; show us9.2.2.2.1 = _; rw [hus9]) (by rw [hus13]; show us9.2.2.2.2.1 = _; rw [hus9]) (by rw [hus13]; show us9.2.2.2.2.2.2 = _; rw [hus9]) hok hn, by rw [show cell.toNatClampNeg = c0 by rw [ec0, nI_clamp (by omega)], upd_swap (by omega), nw_s5 (u := us9) (u1 := us13) (i := c0) (v := v2) (by omega) xus13 (fun k9 h9 => pus13_o k9 h9), nw_s4 (u := us4) (u1 := us9) (i := c0) (v := v) (by omega) xus9 (fun k9 h9 => pus9_o k9 h9), hN1], by rw [pus13_21, pus9_21]; exact hN2⟩, by rw [ht]; exact hP, va_K.moved hW.alike hK, hD⟩, hS.F ht⟩) hS.2.2 dX2_setLevels_47))

/-! the class: its world with the two tables of ends -/
def feL : List Nat := [18, 0, 1, 2, 19, 3, 4, 5, 20, 6, 7, 8, 9, 0, 3, 6, 10, 1, 4, 7, 11, 2, 5, 8]
def seL : List Nat := [0, 1, 2, 12, 3, 4, 5, 13, 6, 7, 8, 14, 0, 3, 6, 15, 1, 4, 7, 16, 2, 5, 8, 17]
def fe (k : Nat) : Nat := feL.getD k 0
def se (k : Nat) : Nat := seL.getD k 0
theorem fe_lt : ∀ k, k < 24 → fe k < 21 := by decide
theorem se_lt : ∀ k, k < 24 → se k < 21 := by decide
def nsC (U : State) : Prop := va_Nw (.fieldLinkNest RX0 60 "HeadGrid" "FIRST_ENDS" "[I" "HeadGrid") U ∧ va_Nw (.fieldLinkNest RX0 63 "HeadGrid" "SECOND_ENDS" "[I" "HeadGrid") U
theorem nsC.warm {u U : State} (hW : u.WarmedH U.vm) (h : nsC u) : nsC U := ⟨va_Nw.warmF hW h.1, va_Nw.warmF hW h.2⟩
theorem nsC.same {u U : State} (hv : u.vm = U.vm) (h : nsC u) : nsC U := ⟨va_tabs rfl hv h.1, va_tabs rfl hv h.2⟩
def stC (tt : Nat × Nat) (A : Nat → Prop) (U : State) (H : Heap) : Prop := (va_Z RX2 "FIRST_ENDS" "[I" (.ref tt.1) A U H ∧ va_T .int tt.1 24 (fun j => .int (nI (fe j))) A U H) ∧ (va_Z RX2 "SECOND_ENDS" "[I" (.ref tt.2) A U H ∧ va_T .int tt.2 24 (fun j => .int (nI (se j))) A U H) ∧ nsC U
theorem stC.warm {tt : Nat × Nat} {A : Nat → Prop} {u U : State} {H : Heap} (hW : u.WarmedH U.vm) (h : stC tt A u H) : stC tt A U H :=
  ⟨⟨va_Z.moved hW.alike h.1.1, va_T.moved hW.alike h.1.2⟩, ⟨va_Z.moved hW.alike h.2.1.1, va_T.moved hW.alike h.2.1.2⟩, h.2.2.warm hW⟩
theorem stC.same {tt : Nat × Nat} {A : Nat → Prop} {u U : State} {H : Heap} (hv : u.vm = U.vm) (h : stC tt A u H) : stC tt A U H := by
  have hvm : u.vm.Alike U.vm := by rw [hv]; exact Vm.Alike.refl _
  exact ⟨⟨va_Z.moved hvm h.1.1, va_T.moved hvm h.1.2⟩, ⟨va_Z.moved hvm h.2.1.1, va_T.moved hvm h.2.1.2⟩, h.2.2.same hv⟩
theorem stC.kept {tt : Nat × Nat} {A : Nat → Prop} {U : State} {H H1 : Heap} (h : stC tt A U H) (hq : ∀ a : Nat, a < H.size → ¬ A a → H1[a]? = H[a]?) : stC tt A U H1 :=
  ⟨⟨h.1.1.kept hq, h.1.2.kept hq⟩, ⟨h.2.1.1.kept hq, h.2.1.2.kept hq⟩, h.2.2⟩
theorem stC.narrow {tt : Nat × Nat} {A B : Nat → Prop} {U : State} {H : Heap} (h : stC tt A U H) (hAB : ∀ q, B q → A q) : stC tt B U H :=
  ⟨⟨h.1.1.narrow hAB, h.1.2.narrow hAB⟩, ⟨h.2.1.1.narrow hAB, h.2.1.2.narrow hAB⟩, h.2.2⟩
def rdC (dd : va_G) (cy : Nat → ClassId) (tt : Nat × Nat) (ws : va_W) : State → Prop := fun U => va_P dd vwCl ws U.heap ∧ va_K dd vwCl (tysW cy) U ∧ stC tt (fun _ => False) U U.heap
def wrC (dd : va_G) (cy : Nat → ClassId) (tt : Nat × Nat) (ws : va_W) (sz : Nat) : State → Prop := fun U => U.heap.size = sz ∧ va_P dd vwCl ws U.heap ∧ va_K dd vwCl (tysW cy) U ∧ va_D (fun _ => True) ws ∧ stC tt (va_A ws sz) U U.heap
def rdS (tt : Nat × Nat) : State → Prop := fun U => stC tt (fun _ => False) U U.heap
theorem rdC_blind {dd : va_G} {cy : Nat → ClassId} {tt : Nat × Nat} {ws : va_W} {av : List Value} : FrameBlind (va_Pc av (rdC dd cy tt ws)) :=
  fun a U g mk q => ⟨q.1, q.2.1, va_K.moved (u := U) (U := U.calling g mk a) (Vm.Alike.refl U.vm) q.2.2.1, stC.same (u := U) (U := U.calling g mk a) rfl q.2.2.2⟩
theorem wrC_blind {dd : va_G} {cy : Nat → ClassId} {tt : Nat × Nat} {ws : va_W} {sz : Nat} {av : List Value} : FrameBlind (va_Pc av (wrC dd cy tt ws sz)) :=
  fun a U g mk q => ⟨q.1, q.2.1, q.2.2.1, va_K.moved (u := U) (U := U.calling g mk a) (Vm.Alike.refl U.vm) q.2.2.2.1, q.2.2.2.2.1, stC.same (u := U) (U := U.calling g mk a) rfl q.2.2.2.2.2⟩
theorem rdS_blind {tt : Nat × Nat} {av : List Value} : FrameBlind (va_Pc av (rdS tt)) :=
  fun a U g mk q => ⟨q.1, stC.same (u := U) (U := U.calling g mk a) rfl q.2⟩
section CB
variable {dd : va_G} {cy : Nat → ClassId} {tt : Nat × Nat} {ws : va_W} {s : State} {H : Heap} {A : Nat → Prop} {locs : List Loc} {As : List Value}
theorem stC.go {U : State} (h : stC tt A s s.heap) (hS : va_S A s.heap H locs) (hW : s.WarmedH U.vm) (hU : U.heap = H) {B : Nat → Prop} (hB : ∀ q, B q → A q) : stC tt B U U.heap := by
  rw [hU]
  exact ((h.kept (fun a ha hn => hS.2.1 a ha hn)).narrow hB).warm hW
theorem rdC_V {b ci q0 : Nat} {fs : List Value} {q : vw_C} (hP : va_P dd vwCl ws H) (hK : va_K dd vwCl (tysW cy) s) (hSt : stC tt A s s.heap) (hS : va_S A s.heap H locs) (he : ws[q0]? = some (b, .inr (ci, fs))) (hc : vwCl[ci]? = some q) : PreV s H q.1 b (va_Pc (.ref b :: As) (rdC dd cy tt ws)) As :=
  ⟨rdC_blind, va_recv hK hP (ci := ci) (q0 := q0) hc he, fun U hU hW => ⟨rfl, by rw [hU]; exact hP, va_K.moved hW.alike hK, hSt.go hS hW hU (fun _ h => h.elim)⟩⟩
theorem wrC_V {b ci q0 : Nat} {fs : List Value} {q : vw_C} (hP : va_P dd vwCl ws H) (hK : va_K dd vwCl (tysW cy) s) (hD : va_D A ws) (hSt : stC tt A s s.heap) (hS : va_S A s.heap H locs) (hA : ∀ q, s.heap.size ≤ q → A q) (he : ws[q0]? = some (b, .inr (ci, fs))) (hc : vwCl[ci]? = some q) : PreV s H q.1 b (va_Pc (.ref b :: As) (wrC dd cy tt ws H.size)) As :=
  ⟨wrC_blind, va_recv hK hP (ci := ci) (q0 := q0) hc he, fun U hU hW => ⟨rfl, by rw [hU], by rw [hU]; exact hP, va_K.moved hW.alike hK, hD.weaken (fun _ _ _ _ => trivial), hSt.go hS hW hU (va_free_all hD hS hA)⟩⟩
theorem rdS_S (hSt : stC tt A s s.heap) (hS : va_S A s.heap H locs) : PreS s H (va_Pc As (rdS tt)) As :=
  ⟨rdS_blind, fun U hU hW => ⟨rfl, hSt.go hS hW hU (fun _ h => h.elim)⟩⟩
end CB
section CR
variable {p : Program} {l : Launch} {e : Env} {R : Room} {s : State} {m : MethodId} {args : Array Value} {below : List Frame} {meth : Method} {c : Code} {H : Heap} {locs : List Loc} {cells slots : Nat} {Q : State → Prop}
variable {cc : ByteArray} {pc : Nat} {ls : Array Slot} {rest : List Value} {A : Nat → Prop} {H0 : Heap} {D : va_G} {cl : List vw_C} {tys : List (ClassId × FieldType)} {ws : va_W} {a : Nat}
theorem wa_ti {t N : Nat} {f : Nat → Int32} (hexec : p.tables.exec = Jvm.exec) (hb : c.code = cc) (hT : va_T .int t N (fun j => .int (f j)) A s s.heap) (hS : va_S A s.heap H locs) {i : Nat} (hi : i < N) (hN : N < 2 ^ 31) (hdg : decode cc pc = .ok (.iaload, 1))
    (kk : W p l e R s m args below meth c H locs cells slots Q (F0 m (pc + 1) ls (.int (f i) :: rest))) : W p l e R s m args below meth c H locs cells slots Q (F0 m pc ls (.int (nI i) :: .ref t :: rest)) :=
  va_ti hexec hb hT hS (vp_in_nI hi hN) (v := .int (f i)) (by rw [nI_clamp (Nat.lt_trans hi hN)]) hdg kk
theorem wa_aaldO (hexec : p.tables.exec = Jvm.exec) (hb : c.code = cc) (hK : va_K D cl tys s) (hP : va_P D cl ws H) {q0 t0 : Nat} {cA : ClassId} {C : String} {n v : Nat} {f : Nat → Option Nat} (ha : ws[q0]? = some (a, .inl (cA, n, .inr (.inr (.inr (.inr f)))))) (ht : tys[t0]? = some (cA, .object C)) {i : Nat} (hi : i < n) (hn : n < 2 ^ 31) (hv : f i = some v) (hdg : decode cc pc = .ok (.aaload, 1))
    (kk : W p l e R s m args below meth c H locs cells slots Q (F0 m (pc + 1) ls (.ref v :: rest))) : W p l e R s m args below meth c H locs cells slots Q (F0 m pc ls (.int (nI i) :: .ref a :: rest)) := by
  refine va_aldq hexec hb hK hP q0 t0 ha ht (vp_in_nI hi hn) hdg ?_
  rw [nI_clamp (Nat.lt_trans hi hn), hv]
  exact kk
theorem wa_aaldA (hexec : p.tables.exec = Jvm.exec) (hb : c.code = cc) (hK : va_K D cl tys s) (hP : va_P D cl ws H) {q0 t0 : Nat} {cA : ClassId} {n v : Nat} {f : Nat → Option Nat} (ha : ws[q0]? = some (a, .inl (cA, n, .inr (.inr (.inr (.inr f)))))) (ht : tys[t0]? = some (cA, .array .long)) {i : Nat} (hi : i < n) (hn : n < 2 ^ 31) (hv : f i = some v) (hdg : decode cc pc = .ok (.aaload, 1))
    (kk : W p l e R s m args below meth c H locs cells slots Q (F0 m (pc + 1) ls (.ref v :: rest))) : W p l e R s m args below meth c H locs cells slots Q (F0 m pc ls (.int (nI i) :: .ref a :: rest)) := by
  have hin : vp_in (nI i) n := vp_in_nI hi hn
  have hlt : (nI i).toNatClampNeg < n := Nat.not_le.mp fun q => hin (Or.inr q)
  refine W.aald (v := va_rf (f (nI i).toNatClampNeg)) (ty := .array .long) hexec hb (hP q0 _ ha) ((hK.2 t0 _ ht).1 n (fun j => va_rf (f j))) rfl (fun q => by cases q) (by show ¬ (nI i < 0 ∨ (arrV _ _ _).slots.size ≤ _); rw [arrV_size]; exact hin) (by show (arrV _ _ _).slots[_]? = _; rw [arrV_read _ _ hlt]) rfl rfl hdg ?_
  rw [nI_clamp (Nat.lt_trans hi hn), hv]
  exact kk
theorem wa_aast (hexec : p.tables.exec = Jvm.exec) (hb : c.code = cc) (hK : va_K D cl tys s) (hP : va_P D cl ws H) (hD : va_D A ws) (hS : va_S A H0 H locs) {q0 t0 qk ci : Nat} {cA : ClassId} {r : vw_C} {n v : Nat} {vs : List Value} {f : Nat → Option Nat} (ha : ws[q0]? = some (a, .inl (cA, n, .inr (.inr (.inr (.inr f)))))) (ht : tys[t0]? = some (cA, .object r.1)) (hv : ws[qk]? = some (v, .inr (ci, vs))) (hc : cl[ci]? = some r) {i : Nat} (hi : i < n) (hn : n < 2 ^ 31) (hdg : decode cc pc = .ok (.aastore, 1)) {ws' : va_W} (hw : ws.set q0 (a, .inl (cA, n, .inr (.inr (.inr (.inr (va_up f i (some v))))))) = ws')
    (kk : ∀ (H1 : Heap) (locs1 : List Loc), va_P D cl ws' H1 → va_D A ws' → va_S A H0 H1 locs1 → W p l e R s m args below meth c H1 locs1 cells slots Q (F0 m (pc + 1) ls rest)) : W p l e R s m args below meth c H locs cells slots Q (F0 m pc ls (.ref v :: .int (nI i) :: .ref a :: rest)) := by
  refine va_astq hexec hb hK hP hD hS q0 t0 qk ci ha ht hv hc (vp_in_nI hi hn) hdg (fun H1 l1 h1 h2 h3 => ?_)
  rw [nI_clamp (Nat.lt_trans hi hn), hw] at h1 h2
  exact kk H1 l1 h1 h2 h3
end CR
theorem wC_sn0 (cy : Nat → ClassId) (ad : Nat → Nat) (u : CS) (X : va_W) (f : Nat → Int32) : (wC cy ad u ++ X).set 18 (ad 18, .inl (cy 0, 24, .inl f)) = wC cy ad (va_up u.1 18 f, u.2) ++ X := rfl
theorem wC_sn1 (cy : Nat → ClassId) (ad : Nat → Nat) (u : CS) (X : va_W) (f : Nat → Int32) : (wC cy ad u ++ X).set 19 (ad 19, .inl (cy 0, 12, .inl f)) = wC cy ad (va_up u.1 19 f, u.2) ++ X := rfl
theorem wC_sn2 (cy : Nat → ClassId) (ad : Nat → Nat) (u : CS) (X : va_W) (f : Nat → Int32) : (wC cy ad u ++ X).set 20 (ad 20, .inl (cy 0, 9, .inl f)) = wC cy ad (va_up u.1 20 f, u.2) ++ X := rfl
theorem wC_sn3 (cy : Nat → ClassId) (ad : Nat → Nat) (u : CS) (X : va_W) (f : Nat → Int32) : (wC cy ad u ++ X).set 21 (ad 21, .inl (cy 0, 9, .inl f)) = wC cy ad (va_up u.1 21 f, u.2) ++ X := rfl
theorem wC_sn4 (cy : Nat → ClassId) (ad : Nat → Nat) (u : CS) (X : va_W) (f : Nat → Int32) : (wC cy ad u ++ X).set 22 (ad 22, .inl (cy 0, 9, .inl f)) = wC cy ad (va_up u.1 22 f, u.2) ++ X := rfl
theorem wC_sn5 (cy : Nat → ClassId) (ad : Nat → Nat) (u : CS) (X : va_W) (f : Nat → Int32) : (wC cy ad u ++ X).set 23 (ad 23, .inl (cy 0, 9, .inl f)) = wC cy ad (va_up u.1 23 f, u.2) ++ X := rfl
theorem wC_sn6 (cy : Nat → ClassId) (ad : Nat → Nat) (u : CS) (X : va_W) (f : Nat → UInt64) : (wC cy ad u ++ X).set 24 (ad 24, .inl (cy 2, 9, .inr (.inr (.inr (.inl f))))) = wC cy ad (u.1, va_up u.2.1 24 f, u.2.2) ++ X := rfl
/-- the settings of a block, by the reference's places -/
def nwB (u : CS) (b : Nat) : Nat → Int32 := fun k => if k < 24 then u.1 (17 + 8 * b + 1) k else if k < 36 then u.1 (17 + 8 * b + 2) (k - 24) else if k < 45 then u.1 (17 + 8 * b + 3) (k - 36) else if k < 54 then u.1 (17 + 8 * b + 4) (k - 45) else if k < 63 then u.1 (17 + 8 * b + 5) (k - 54) else u.1 (17 + 8 * b + 6) (k - 63)
def nw (u : CS) : Nat → Int32 := nwB u 0
theorem nw_0 (u : CS) {k : Nat} (h : k < 24) : nw u k = u.1 18 k := by unfold nw nwB; rw [if_pos h]
theorem nw_1 (u : CS) {k : Nat} (h : k < 12) : nw u (24 + k) = u.1 19 k := by unfold nw nwB; rw [if_neg (by omega), if_pos (by omega), Nat.add_sub_cancel_left]
theorem nw_2 (u : CS) {k : Nat} (h : k < 9) : nw u (36 + k) = u.1 20 k := by unfold nw nwB; rw [if_neg (by omega), if_neg (by omega), if_pos (by omega), Nat.add_sub_cancel_left]
theorem nw_3 (u : CS) {k : Nat} (h : k < 9) : nw u (45 + k) = u.1 21 k := by unfold nw nwB; rw [if_neg (by omega), if_neg (by omega), if_neg (by omega), if_pos (by omega), Nat.add_sub_cancel_left]
theorem nw_4 (u : CS) {k : Nat} (h : k < 9) : nw u (54 + k) = u.1 22 k := by unfold nw nwB; rw [if_neg (by omega), if_neg (by omega), if_neg (by omega), if_neg (by omega), if_pos (by omega), Nat.add_sub_cancel_left]
theorem nw_5 (u : CS) {k : Nat} (h : k < 9) : nw u (63 + k) = u.1 23 k := by unfold nw nwB; rw [if_neg (by omega), if_neg (by omega), if_neg (by omega), if_neg (by omega), if_neg (by omega), Nat.add_sub_cancel_left]
theorem nw_congr {u u1 : CS} (h : u1.1 = u.1) : nw u1 = nw u := by unfold nw nwB; rw [h]

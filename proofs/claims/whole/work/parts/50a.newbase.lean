/-! new objects: what their constructors need -/
theorem va_AOA.moved {ty : FieldType} {u U : State} (hvm : u.vm.Alike U.vm) (h : va_AOA ty u) : va_AOA ty U := by
  have hi : ∀ comp : ClassId, (U.vm.classes.findIdx? fun (x : Class) => match x.kind with | .array component _ => component == comp | _ => false) = (u.vm.classes.findIdx? fun (x : Class) => match x.kind with | .array component _ => component == comp | _ => false) := fun comp => by
    have h1 := va_idx_bare U.vm comp
    have h2 := va_idx_bare u.vm comp
    first | rw [← hvm.bare_eq] at h1 | rw [hvm.bare_eq] at h1
    exact h1.symm.trans h2
  have h' := h
  unfold va_AOA Cond.before Cond.holds at h' ⊢
  simp only [Cond.value] at h' ⊢
  rw [beq_iff_eq] at h' ⊢
  obtain ⟨comp, h1, h2⟩ := Option.bind_eq_some_iff.mp h'
  obtain ⟨c, h3, h4⟩ := Option.bind_eq_some_iff.mp h2
  obtain ⟨k, h5, h6⟩ := Option.map_eq_some_iff.mp h4
  obtain ⟨k', hk', he⟩ := hvm.2.2 _ _ h5
  refine Option.bind_eq_some_iff.mpr ⟨comp, by rw [hvm.findClass]; exact h1, Option.bind_eq_some_iff.mpr ⟨c, (hi comp).trans h3, Option.map_eq_some_iff.mpr ⟨k', hk', ?_⟩⟩⟩
  rw [hvm.findClass, he]
  exact h6
def wrN (dd : va_G) (cy : Nat → ClassId) (ws : va_W) (sz : Nat) : State → Prop := fun U => (va_AO RX1 U ∧ va_AOA .long U) ∧ wrW dd cy ws sz U
theorem wrN_blind {dd : va_G} {cy : Nat → ClassId} {ws : va_W} {sz : Nat} {av : List Value} : FrameBlind (va_Pc av (wrN dd cy ws sz)) :=
  fun a U g mk q => ⟨q.1, ⟨va_AO.moved (u := U) (U := U.calling g mk a) (Vm.Alike.refl U.vm) q.2.1.1, va_AOA.moved (u := U) (U := U.calling g mk a) (Vm.Alike.refl U.vm) q.2.1.2⟩, (wrW_blind (av := av) a U g mk ⟨q.1, q.2.2⟩).2⟩
theorem wrN_S {dd : va_G} {cy : Nat → ClassId} {ws : va_W} {s : State} {H : Heap} {A : Nat → Prop} {As : List Value} (hO : va_AO RX1 s ∧ va_AOA .long s) (hP : va_P dd vwCl ws H) (hK : va_K dd vwCl (tysW cy) s) (hD : va_D A ws) : PreS s H (va_Pc As (wrN dd cy ws H.size)) As :=
  ⟨wrN_blind, fun U hU hW => ⟨rfl, ⟨va_AO.moved hW.alike hO.1, va_AOA.moved hW.alike hO.2⟩, ((wrW_S (As := As) hP hK hD).2 U hU hW).2⟩⟩
section NA
variable {p : Program} {l : Launch} {e : Env} {R : Room} {s : State} {m : MethodId} {args : Array Value} {below : List Frame} {meth : Method} {c : Code} {H : Heap} {locs : List Loc} {cells slots : Nat} {Q : State → Prop}
variable {cc : ByteArray} {pc : Nat} {ls : Array Slot} {rest st0 : List Value} {a : Array Value} {A A0 : Nat → Prop} {H0 : Heap} {mc ms : Nat} {dd : va_G} {cy : Nat → ClassId} {ws : va_W}
theorem wa_newI (hexec : p.tables.exec = Jvm.exec) (hb : c.code = cc) (harr : (Cond.arrayClass .int).before args s = true) (hK : va_K dd vwCl (tysW cy) s) (hP : va_P dd vwCl ws H) (hD : va_D A ws) (hS : va_S A H0 H locs) (hA : ∀ q, H0.size ≤ q → A q) {n : Nat} (hn : n < 2 ^ 20) (hcells : cells + 1 ≤ R.cells) (hslots : slots + n ≤ R.slots) (hdg : decode cc pc = .ok (.newarray .int, 2))
    (kk : ∀ (q : Nat) (H1 : Heap), va_P dd vwCl (ws ++ [(q, .inl (cy 0, n, .inl (fun _ => 0)))]) H1 → va_D A (ws ++ [(q, .inl (cy 0, n, .inl (fun _ => 0)))]) → va_S A H0 H1 locs → W p l e R s m args below meth c H1 locs (cells + 1) (slots + n) Q (F0 m (pc + 2) ls (.ref q :: rest))) : W p l e R s m args below meth c H locs cells slots Q (F0 m pc ls (.int (nI n) :: rest)) := by
  refine va_newa (atype := .int) (ty := .int) (a0 := (n, .inl (fun _ => 0))) hexec hb harr rfl hK hP hD hS hA (fun _ => rfl) (fun h => absurd (Int32.lt_iff_toInt_lt.mp h) (by rw [nI_toInt (by omega)]; show ¬ ((n : Int) < 0); omega)) (nI_clamp (by omega)) (by show n * 4 ≤ _; omega) hcells hslots hdg (fun q cA H1 hK1 hP1 hD1 hS1 => ?_)
  have h1 := (hK1.2 5 _ rfl).2
  have h2 := (hK.2 0 _ rfl).2
  have e0 : cA = cy 0 := Option.some.inj (h1.symm.trans h2)
  subst e0
  exact kk q H1 hP1 hD1 hS1
theorem wa_newJ (hexec : p.tables.exec = Jvm.exec) (hb : c.code = cc) (harr : (Cond.arrayClass .long).before args s = true) (hK : va_K dd vwCl (tysW cy) s) (hP : va_P dd vwCl ws H) (hD : va_D A ws) (hS : va_S A H0 H locs) (hA : ∀ q, H0.size ≤ q → A q) {n : Nat} (hn : n < 2 ^ 20) (hcells : cells + 1 ≤ R.cells) (hslots : slots + n ≤ R.slots) (hdg : decode cc pc = .ok (.newarray .long, 2))
    (kk : ∀ (q : Nat) (H1 : Heap), va_P dd vwCl (ws ++ [(q, .inl (cy 1, n, .inr (.inl (fun _ => 0))))]) H1 → va_D A (ws ++ [(q, .inl (cy 1, n, .inr (.inl (fun _ => 0))))]) → va_S A H0 H1 locs → W p l e R s m args below meth c H1 locs (cells + 1) (slots + n) Q (F0 m (pc + 2) ls (.ref q :: rest))) : W p l e R s m args below meth c H locs cells slots Q (F0 m pc ls (.int (nI n) :: rest)) := by
  refine va_newa (atype := .long) (ty := .long) (a0 := (n, .inr (.inl (fun _ => 0)))) hexec hb harr rfl hK hP hD hS hA (fun _ => rfl) (fun h => absurd (Int32.lt_iff_toInt_lt.mp h) (by rw [nI_toInt (by omega)]; show ¬ ((n : Int) < 0); omega)) (nI_clamp (by omega)) (by show n * 8 ≤ _; omega) hcells hslots hdg (fun q cA H1 hK1 hP1 hD1 hS1 => ?_)
  have h1 := (hK1.2 5 _ rfl).2
  have h2 := (hK.2 1 _ rfl).2
  have e0 : cA = cy 1 := Option.some.inj (h1.symm.trans h2)
  subst e0
  exact kk q H1 hP1 hD1 hS1
theorem wa_newD (hexec : p.tables.exec = Jvm.exec) (hb : c.code = cc) (harr : (Cond.arrayClass .double).before args s = true) (hK : va_K dd vwCl (tysW cy) s) (hP : va_P dd vwCl ws H) (hD : va_D A ws) (hS : va_S A H0 H locs) (hA : ∀ q, H0.size ≤ q → A q) {n : Nat} (hn : n < 2 ^ 20) (hcells : cells + 1 ≤ R.cells) (hslots : slots + n ≤ R.slots) (hdg : decode cc pc = .ok (.newarray .double, 2))
    (kk : ∀ (q : Nat) (H1 : Heap), va_P dd vwCl (ws ++ [(q, .inl (cy 2, n, .inr (.inr (.inr (.inl (fun _ => 0))))))]) H1 → va_D A (ws ++ [(q, .inl (cy 2, n, .inr (.inr (.inr (.inl (fun _ => 0))))))]) → va_S A H0 H1 locs → W p l e R s m args below meth c H1 locs (cells + 1) (slots + n) Q (F0 m (pc + 2) ls (.ref q :: rest))) : W p l e R s m args below meth c H locs cells slots Q (F0 m pc ls (.int (nI n) :: rest)) := by
  refine va_newa (atype := .double) (ty := .double) (a0 := (n, .inr (.inr (.inr (.inl (fun _ => 0)))))) hexec hb harr rfl hK hP hD hS hA (fun _ => rfl) (fun h => absurd (Int32.lt_iff_toInt_lt.mp h) (by rw [nI_toInt (by omega)]; show ¬ ((n : Int) < 0); omega)) (nI_clamp (by omega)) (by show n * 8 ≤ _; omega) hcells hslots hdg (fun q cA H1 hK1 hP1 hD1 hS1 => ?_)
  have h1 := (hK1.2 5 _ rfl).2
  have h2 := (hK.2 2 _ rfl).2
  have e0 : cA = cy 2 := Option.some.inj (h1.symm.trans h2)
  subst e0
  exact kk q H1 hP1 hD1 hS1
theorem wa_newQ (hexec : p.tables.exec = Jvm.exec) (hb : c.code = cc) {own : String} {index : Nat} (hown : s.vm.findClass own = some m.cls) (hclink : (Cond.classLink own index RX1).before args s = true) (hover : va_AO RX1 s) (hK : va_K dd vwCl (tysW cy) s) (hP : va_P dd vwCl ws H) (hD : va_D A ws) (hS : va_S A H0 H locs) (hA : ∀ q, H0.size ≤ q → A q) {n : Nat} (hn : n < 2 ^ 20) (hcells : cells + 1 ≤ R.cells) (hslots : slots + n ≤ R.slots) (hdg : decode cc pc = .ok (.anewarray index, 3))
    (kk : ∀ (q : Nat) (H1 : Heap), va_P dd vwCl (ws ++ [(q, .inl (cy 3, n, .inr (.inr (.inr (.inr (fun _ => none))))))]) H1 → va_D A (ws ++ [(q, .inl (cy 3, n, .inr (.inr (.inr (.inr (fun _ => none))))))]) → va_S A H0 H1 locs → W p l e R s m args below meth c H1 locs (cells + 1) (slots + n) Q (F0 m (pc + 3) ls (.ref q :: rest))) : W p l e R s m args below meth c H locs cells slots Q (F0 m pc ls (.int (nI n) :: rest)) := by
  refine va_newq (N' := n) hexec hb hown hclink hover hK hP hD hS hA (fun h => absurd (Int32.lt_iff_toInt_lt.mp h) (by rw [nI_toInt (by omega)]; show ¬ ((n : Int) < 0); omega)) (nI_clamp (by omega)) (by omega) hcells hslots hdg (fun q cA H1 hK1 hP1 hD1 hS1 => ?_)
  obtain ⟨_, _, _, _, _, h1⟩ := (hK1.2 5 _ rfl).2
  obtain ⟨_, _, _, _, _, h2⟩ := (hK.2 3 _ rfl).2
  have e0 : cA = cy 3 := Option.some.inj (h1.symm.trans h2)
  subst e0
  exact kk q H1 hP1 hD1 hS1
/-- new long[9][18] -/
theorem wa_mnaJ {index : Nat} {own : String} (hexec : p.tables.exec = Jvm.exec) (hb : c.code = cc) (hown : s.vm.findClass own = some m.cls) (hclink : (Cond.classLink own index "[[J").before args s = true) (hover : va_AOA .long s) (harr : (Cond.arrayClass .long).before args s = true) (hK : va_K dd vwCl (tysW cy) s) (hP : va_P dd vwCl ws H) (hD : va_D A ws) (hS : va_S A H0 H locs) (hA : ∀ q, H0.size ≤ q → A q) (hcells : cells + 10 ≤ R.cells) (hslots : slots + 171 ≤ R.slots) (hdg : decode cc pc = .ok (.multianewarray index 2, 4))
    (kk : ∀ (q : Nat) (r : Nat → Nat) (H1 : Heap), va_P dd vwCl (ws ++ (q, .inl (cy 4, 9, .inr (.inr (.inr (.inr (fun i => if i < 9 then some (r i) else none)))))) :: (List.range 9).map (fun i => ((r i, .inl (cy 1, 18, .inr (.inl (fun _ => 0)))) : Nat × va_E))) H1 → va_D A (ws ++ (q, .inl (cy 4, 9, .inr (.inr (.inr (.inr (fun i => if i < 9 then some (r i) else none)))))) :: (List.range 9).map (fun i => ((r i, .inl (cy 1, 18, .inr (.inl (fun _ => 0)))) : Nat × va_E))) → va_S A H0 H1 locs → W p l e R s m args below meth c H1 locs (cells + 10) (slots + 171) Q (F0 m (pc + 4) ls (.ref q :: rest))) : W p l e R s m args below meth c H locs cells slots Q (F0 m pc ls (.int (nI 18) :: .int (nI 9) :: rest)) := by
  have h0 : ws = ws ++ va_pl [] (fun _ => .inl (cy 1, 18, .inr (.inl (fun _ => 0)))) := (List.append_nil ws).symm
  rw [h0] at hP hD
  have e9 : ("[" ++ (FieldType.array .long).toString) = "[[J" := by decide +kernel
  have hcl2 : (Cond.classLink own index ("[" ++ (FieldType.array .long).toString)).before args s = true := by rw [e9]; exact hclink
  refine va_mna (ty := .long) (N' := 9) (K' := 18) (z := (18, .inr (.inl (fun _ => 0)))) hexec hb hown hcl2 hover harr ((hK.2 1 _ rfl).2) hK hP hD hS hA (by decide) (by decide) (by decide) (by decide) (by decide) (by decide) (by decide) (by decide) (by decide) hcells hslots (fun c9 => arrV_new _ _ _) hdg (fun q r cA H1 _ _ hK1 hP1 hD1 hS1 => ?_)
  have h1 := (hK1.2 5 _ rfl).2
  have h2 := (hK.2 4 _ rfl).2
  have e0 : cA = cy 4 := Option.some.inj (h1.symm.trans h2)
  subst e0
  rw [← vr_rows (fun _ _ => List.not_mem_nil), List.append_assoc] at hP1 hD1
  exact W.widen (k := cells + 10) (n := slots + 171) (by omega) (by omega) (kk q r H1 hP1 hD1 hS1)
/-- a call of a constructor upon the newest cell x: the rest is as it was -/
theorem wn_ctor {S : Type} {post : S → Prop} {F : S → va_W} {x : Nat × va_E} (hr : va_Run p l e R s m args below meth c H locs cells slots mc ms (F0 m pc ls st0) rest (va_Qv post (wB dd cy F (va_A [x] H.size)) (va_A [x] H.size) a) (va_A [x] H.size)) (hP : va_P dd vwCl (ws ++ [x]) H) (hD : va_D A0 (ws ++ [x])) (hS : va_S A0 H0 H locs) (hA : ∀ q, H0.size ≤ q → A0 q)
    (kk : ∀ (u : S) (H1 : Heap) (locs1 : List Loc), post u → va_P dd vwCl (ws ++ F u) H1 → va_D A0 (ws ++ F u) → va_S A0 H0 H1 locs1 → W p l e R s m args below meth c H1 locs1 (cells + mc) (slots + ms) Q (F0 m (pc + 3) ls rest)) : W p l e R s m args below meth c H locs cells slots Q (F0 m pc ls st0) := by
  have hx : (ws ++ [x])[ws.length]? = some x := by rw [List.getElem?_append_right (Nat.le_refl _), Nat.sub_self]; rfl
  have hin : ∀ (k : Nat) (y : Nat × va_E), ws[k]? = some y → (ws ++ [x])[k]? = some y := fun k y hy => by
    rw [List.getElem?_append_left (List.getElem?_eq_some_iff.mp hy).1]; exact hy
  have hF : ∀ q, va_A [x] H.size q → A0 q := fun q h => by
    rcases h with ⟨k, e9, h⟩ | h
    · have hz : k < 1 := (List.getElem?_eq_some_iff.mp h).1
      rw [show k = 0 by omega] at h
      cases h
      exact hD.2 _ _ hx
    · exact hA q (Nat.le_trans hS.1 h)
  have hnot : ∀ (k : Nat) (y : Nat × va_E), ws[k]? = some y → ¬ va_A [x] H.size y.1 := fun k y hy h => by
    have hk := (List.getElem?_eq_some_iff.mp hy).1
    rcases h with ⟨k9, e9, h⟩ | h
    · have hz : k9 < 1 := (List.getElem?_eq_some_iff.mp h).1
      rw [show k9 = 0 by omega] at h
      cases h
      exact absurd (hD.1 k ws.length _ _ (hin k y hy) hx rfl) (by omega)
    · exact absurd (hP k y (hin k y hy)).lt (Nat.not_lt.mpr h)
  refine va_callv hr hS (fun q _ h => hF q h) hF (fun u t H1 locs1 ht hvm hw hB hz1 hk1 hS1 => ?_)
  obtain ⟨h1, h2, h3⟩ := hB
  rw [ht] at h1
  have hP0 : va_P dd vwCl ws H1 := fun k y hy => ((hP k y (hin k y hy)).kept (hk1 y.1 ((hP k y (hin k y hy)).lt) (hnot k y hy)))
  refine kk u H1 locs1 hw (hP0.app h1) ⟨fun i j y z hi hj hyz => ?_, fun k y hy => ?_⟩ hS1
  · by_cases g1 : i < ws.length <;> by_cases g2 : j < ws.length
    · rw [List.getElem?_append_left g1] at hi
      rw [List.getElem?_append_left g2] at hj
      exact hD.1 i j y z (hin i y hi) (hin j z hj) hyz
    · rw [List.getElem?_append_left g1] at hi
      rw [List.getElem?_append_right (by omega)] at hj
      exact absurd (by rw [hyz]; exact h3.2 _ _ hj) (hnot i y hi)
    · rw [List.getElem?_append_right (by omega)] at hi
      rw [List.getElem?_append_left g2] at hj
      exact absurd (by rw [← hyz]; exact h3.2 _ _ hi) (hnot j z hj)
    · rw [List.getElem?_append_right (by omega)] at hi hj
      have := h3.1 _ _ _ _ hi hj hyz
      omega
  · by_cases g1 : k < ws.length
    · rw [List.getElem?_append_left g1] at hy
      exact hD.2 k y (hin k y hy)
    · rw [List.getElem?_append_right (by omega)] at hy
      exact hF _ (h3.2 _ _ hy)
end NA
theorem arrV_cg {cA : ClassId} {n : Nat} {f g : Nat → Value} (h : ∀ j, j < n → f j = g j) : arrV cA n f = arrV cA n g := by
  unfold arrV
  congr 2
  funext j
  exact h j.1 j.2
/-- what a row holds beyond its end is nothing -/
theorem va_cgQ {dd : va_G} {ws : va_W} {H : Heap} {A : Nat → Prop} {k a n : Nat} {cA : ClassId} {f g : Nat → Option Nat} (hk : ws[k]? = some (a, .inl (cA, n, .inr (.inr (.inr (.inr f)))))) (h : ∀ j, j < n → f j = g j) (hP : va_P dd vwCl ws H) (hD : va_D A ws) : va_P dd vwCl (ws.set k (a, .inl (cA, n, .inr (.inr (.inr (.inr g)))))) H ∧ va_D A (ws.set k (a, .inl (cA, n, .inr (.inr (.inr (.inr g)))))) := by
  refine ⟨hP.set hD hk ?_ (fun _ _ => rfl), hD.set hk⟩
  have h0 : H[a]? = some (vp_cell cA (n, .inr (.inr (.inr (.inr f))))) := hP k _ hk
  show H[a]? = some (vp_cell cA (n, .inr (.inr (.inr (.inr g)))))
  rw [h0, vp_cell_q, vp_cell_q, arrV_cg (fun j hj => by rw [h j hj])]
theorem va_cgI {dd : va_G} {ws : va_W} {H : Heap} {A : Nat → Prop} {k a n : Nat} {cA : ClassId} {f g : Nat → Int32} (hk : ws[k]? = some (a, .inl (cA, n, .inl f))) (h : ∀ j, j < n → f j = g j) (hP : va_P dd vwCl ws H) (hD : va_D A ws) : va_P dd vwCl (ws.set k (a, .inl (cA, n, .inl g))) H ∧ va_D A (ws.set k (a, .inl (cA, n, .inl g))) := by
  refine ⟨hP.set hD hk ?_ (fun _ _ => rfl), hD.set hk⟩
  have h0 : H[a]? = some (vp_cell cA (n, .inl f)) := hP k _ hk
  show H[a]? = some (vp_cell cA (n, .inl g))
  rw [h0, vp_cell_i, vp_cell_i, arrV_cg (fun j hj => by rw [h j hj])]
theorem va_cgD {dd : va_G} {ws : va_W} {H : Heap} {A : Nat → Prop} {k a n : Nat} {cA : ClassId} {f g : Nat → UInt64} (hk : ws[k]? = some (a, .inl (cA, n, .inr (.inr (.inr (.inl f)))))) (h : ∀ j, j < n → f j = g j) (hP : va_P dd vwCl ws H) (hD : va_D A ws) : va_P dd vwCl (ws.set k (a, .inl (cA, n, .inr (.inr (.inr (.inl g)))))) H ∧ va_D A (ws.set k (a, .inl (cA, n, .inr (.inr (.inr (.inl g)))))) := by
  refine ⟨hP.set hD hk ?_ (fun _ _ => rfl), hD.set hk⟩
  have h0 : H[a]? = some (vp_cell cA (n, .inr (.inr (.inr (.inl f))))) := hP k _ hk
  show H[a]? = some (vp_cell cA (n, .inr (.inr (.inr (.inl g)))))
  rw [h0, vp_cell_d, vp_cell_d, arrV_cg (fun j hj => by rw [h j hj])]
def adL (l : List Nat) : Nat → Nat := fun k => l.getD k 0
/-- n times v, then 0 -/
def fC (n : Nat) (v : Int32) : Nat → Int32 := fun i => if i < n then v else 0
/-- a new State upon the cell h -/
def wS0 (cy : Nat → ClassId) (h : Nat) (a : Nat → Nat) : va_W := [(h, .inr (3, [.ref (a 1), .ref (a 2), .ref (a 3), .ref (a 4), .ref (a 5), .ref (a 6), .ref (a 7)])), (a 1, .inl (cy 0, 24, .inl (fC 24 (nI 1)))), (a 2, .inl (cy 0, 12, .inl (fC 12 (nI 100)))), (a 3, .inl (cy 0, 9, .inl (fun _ => 0))), (a 4, .inl (cy 0, 9, .inl (fun _ => 0))), (a 5, .inl (cy 0, 9, .inl (fun _ => 0))), (a 6, .inl (cy 0, 9, .inl (fun _ => 0))), (a 7, .inl (cy 2, 9, .inr (.inr (.inr (.inl (fun _ => 0))))))]
/-- a new Solution upon the cell h -/
def wS1 (cy : Nat → ClassId) (h : Nat) (a : Nat → Nat) : va_W := [(h, .inr (2, [.ref (a 1), .ref (a 2), .ref (a 3), .long 0])), (a 1, .inl (cy 4, 9, .inr (.inr (.inr (.inr (fun i => some (a (4 + i)))))))), (a 2, .inl (cy 1, 9, .inr (.inl (fun _ => 0)))), (a 3, .inl (cy 1, 9, .inr (.inl (fun _ => 0)))), (a 4, .inl (cy 1, 18, .inr (.inl (fun _ => 0)))), (a 5, .inl (cy 1, 18, .inr (.inl (fun _ => 0)))), (a 6, .inl (cy 1, 18, .inr (.inl (fun _ => 0)))), (a 7, .inl (cy 1, 18, .inr (.inl (fun _ => 0)))), (a 8, .inl (cy 1, 18, .inr (.inl (fun _ => 0)))), (a 9, .inl (cy 1, 18, .inr (.inl (fun _ => 0)))), (a 10, .inl (cy 1, 18, .inr (.inl (fun _ => 0)))), (a 11, .inl (cy 1, 18, .inr (.inl (fun _ => 0)))), (a 12, .inl (cy 1, 18, .inr (.inl (fun _ => 0))))]

/-! the law: its helpers with handlers -/
theorem wl_ofWH {l : Launch} {y : MethodName} {ws ws' : List Cond} {rm : Room} {Pc : Array Value → State → Prop} {Qc : Array Value → State → Outcome → State → Prop} {mc ms : Nat} {free : Addr → Prop} {cc : ByteArray} {maxL : Nat} {ret : Option FieldType} {hh : List (Nat × Nat × Nat × Nat)}
    (hy : plainName y.cls = true) (hw : ws = Cond.codeWith y cc maxL ret hh :: ws')
    (body : ∀ p e s m args below meth c s₁, BodyLoose p l y (headSpec ws rm) cc maxL ret e s m args below meth c s₁ → c.maxLocals = maxL → Pc args s →
      W p l e (headSpec ws rm).room s m args below meth c s.heap [] 0 0 (MQ below Qc args s mc ms free) (entryFrame m args maxL)) : Met l y ws rm Pc Qc mc ms free := by
  refine MetFree.of_bodyS (code := cc) (maxLocals := maxL) (ret := ret) hy ?_ ?_
  · intro args s m h hn
    obtain ⟨m9, meth, c, hn9, h1, h2, h3, h4, -, h5, h6, -⟩ := Cond.codeWith_spec (atoms_spec (ws := ws) h _ (by rw [hw]; exact List.mem_cons_self))
    cases hn.symm.trans hn9
    exact ⟨meth, c, h1, h2, h3, h4, h5, h6⟩
  · intro p e s m args below meth c s₁ B hml hP _
    have hh0 : s₁.heap = s.heap := by rw [B.state]; rfl
    obtain ⟨t, a1, o, b1, b2, b3⟩ := body p e s m args below meth c s₁ B hml hP s₁ hh0 (Stand.of_body B)
    exact ⟨t, o, a1, b1, b2, ⟨b3.1, b3.2⟩⟩
/-- no exception of one kind is of another -/
def ncL (U : State) : Prop := va_Nc xIA xIO U ∧ va_Nc xAE xIO U ∧ va_Nc xAE xIA U
theorem ncL.moved {u U : State} (h : u.vm.Alike U.vm) (hN : ncL u) : ncL U := ⟨hN.1.moved h, hN.2.1.moved h, hN.2.2.moved h⟩
/-- the law's two rows of one answer, then X -/
def xL (cy : Nat → ClassId) (o : Nat × Nat) (g : Nat → Int64) (d : Nat → UInt64) (X : va_W) : va_W := (o.1, .inl (cy 1, 1, .inr (.inl g))) :: (o.2, .inl (cy 2, 1, .inr (.inr (.inr (.inl d))))) :: X
abbrev LZ : Type := CS × (Nat → Int64) × (Nat → UInt64)
def wL (cy : Nat → ClassId) (ad : Nat → Nat) (o : Nat × Nat) (X : va_W) (z : LZ) : va_W := wC cy ad z.1 ++ xL cy o z.2.1 z.2.2 X
theorem wL_57 (cy : Nat → ClassId) (ad : Nat → Nat) (o : Nat × Nat) (X : va_W) (u : CS) (g : Nat → Int64) (d : Nat → UInt64) : (wC cy ad u ++ xL cy o g d X)[57]? = some (o.1, .inl (cy 1, 1, .inr (.inl g))) := rfl
theorem wL_58 (cy : Nat → ClassId) (ad : Nat → Nat) (o : Nat × Nat) (X : va_W) (u : CS) (g : Nat → Int64) (d : Nat → UInt64) : (wC cy ad u ++ xL cy o g d X)[58]? = some (o.2, .inl (cy 2, 1, .inr (.inr (.inr (.inl d))))) := rfl
theorem wL_s57 (cy : Nat → ClassId) (ad : Nat → Nat) (o : Nat × Nat) (X : va_W) (u : CS) (g g1 : Nat → Int64) (d : Nat → UInt64) : (wC cy ad u ++ xL cy o g d X).set 57 (o.1, .inl (cy 1, 1, .inr (.inl g1))) = wC cy ad u ++ xL cy o g1 d X := rfl
theorem wL_s58 (cy : Nat → ClassId) (ad : Nat → Nat) (o : Nat × Nat) (X : va_W) (u : CS) (g : Nat → Int64) (d d1 : Nat → UInt64) : (wC cy ad u ++ xL cy o g d X).set 58 (o.2, .inl (cy 2, 1, .inr (.inr (.inr (.inl d1))))) = wC cy ad u ++ xL cy o g d1 X := rfl
def wrL (dd : va_G) (cy : Nat → ClassId) (tt : Nat × Nat) (N : Nat → Nat) (ws : va_W) (sz : Nat) : State → Prop := fun U => ncL U ∧ wrX dd cy tt N ws sz U
theorem wrL_blind {dd : va_G} {cy : Nat → ClassId} {tt : Nat × Nat} {N : Nat → Nat} {ws : va_W} {sz : Nat} {av : List Value} : FrameBlind (va_Pc av (wrL dd cy tt N ws sz)) :=
  fun a U g mk q => ⟨q.1, ncL.moved (u := U) (U := U.calling g mk a) (Vm.Alike.refl U.vm) q.2.1, (wrX_blind (av := av) a U g mk ⟨q.1, q.2.2⟩).2⟩
theorem wrL_S {dd : va_G} {cy : Nat → ClassId} {tt : Nat × Nat} {N : Nat → Nat} {ws : va_W} {s : State} {H : Heap} {A : Nat → Prop} {locs : List Loc} {As : List Value} (hN : ncL s) (hP : va_P dd vwCl ws H) (hK : va_K dd vwCl (tysW cy) s) (hD : va_D A ws) (hSt : stC tt A s s.heap) (hE : exC N A s s.heap) (hS : va_S A s.heap H locs) (hA : ∀ q, s.heap.size ≤ q → A q) : PreS s H (va_Pc As (wrL dd cy tt N ws H.size)) As :=
  ⟨wrL_blind, fun U hU hW => ⟨rfl, hN.moved hW.alike, ⟨by rw [hU], by rw [hU]; exact hP, va_K.moved hW.alike hK, hD.weaken (fun _ _ _ _ => trivial), hSt.go hS hW hU (va_free_all hD hS hA)⟩, hE.go hS hW hU (va_free_all hD hS hA)⟩⟩
/-- exceptions by number -/
theorem xsE_1 {E : String} {th : Nat} {a : String} (h : xsE E th [a]) : th = 1 ∧ E = a := by
  obtain ⟨k, hk, he⟩ := h
  match k, he with
  | 0, he => exact ⟨hk, (Option.some.inj he).symm⟩
  | k + 1, he => simp at he
theorem xsE_2 {E : String} {th : Nat} {a b : String} (h : xsE E th [a, b]) : (th = 1 ∧ E = a) ∨ (th = 2 ∧ E = b) := by
  obtain ⟨k, hk, he⟩ := h
  match k, he with
  | 0, he => exact Or.inl ⟨hk, (Option.some.inj he).symm⟩
  | 1, he => exact Or.inr ⟨hk, (Option.some.inj he).symm⟩
  | k + 2, he => simp at he
theorem xsE_3 {E : String} {th : Nat} {a b c : String} (h : xsE E th [a, b, c]) : (th = 1 ∧ E = a) ∨ (th = 2 ∧ E = b) ∨ (th = 3 ∧ E = c) := by
  obtain ⟨k, hk, he⟩ := h
  match k, he with
  | 0, he => exact Or.inl ⟨hk, (Option.some.inj he).symm⟩
  | 1, he => exact Or.inr (Or.inl ⟨hk, (Option.some.inj he).symm⟩)
  | 2, he => exact Or.inr (Or.inr ⟨hk, (Option.some.inj he).symm⟩)
  | k + 3, he => simp at he
/-- what a helper answers: the number of the exception, the answer laid down -/
def lwI (th : Nat) (u : CS) (CP : Int32 → CS → Prop) (r : Int32) (z9 : LZ) : Prop := r = nI th ∧ (th = 0 → ∃ r9 : Int32, z9.2.1 0 = r9.toInt64 ∧ CP r9 z9.1) ∧ (th ≠ 0 → frP u z9.1)
def lwJ (th : Nat) (u : CS) (CP : Int64 → CS → Prop) (r : Int32) (z9 : LZ) : Prop := r = nI th ∧ (th = 0 → CP (z9.2.1 0) z9.1) ∧ (th ≠ 0 → frP u z9.1)
def lwZ (th : Nat) (u : CS) (b : Bool) (r : Int32) (z9 : LZ) : Prop := r = nI th ∧ (th = 0 → z9.2.1 0 = (if b then 1 else 0)) ∧ frP u z9.1
def lwD (th : Nat) (u : CS) (CP : UInt64 → CS → Prop) (r : Int32) (z9 : LZ) : Prop := r = nI th ∧ (th = 0 → CP (z9.2.2 0) z9.1) ∧ (th ≠ 0 → frP u z9.1)
theorem vp_updL_s {f : Nat → Int64} {k : Nat} {x : Int64} : vp_updL f k x k = x := if_pos rfl
theorem lwI_of {th : Nat} {u u9 : CS} {CP : Int32 → CS → Prop} {g : Nat → Int64} {d : Nat → UInt64} {r : Int32} (h0 : th = 0) (h : CP r u9) : lwI th u CP (nI 0) (u9, vp_updL g 0 r.toInt64, d) := ⟨by rw [h0], fun _ => ⟨r, (show vp_updL g 0 r.toInt64 0 = r.toInt64 from vp_updL_s), h⟩, fun h9 => absurd h0 h9⟩
theorem lwJ_of {th : Nat} {u u9 : CS} {CP : Int64 → CS → Prop} {g : Nat → Int64} {d : Nat → UInt64} {r : Int64} (h0 : th = 0) (h : CP r u9) : lwJ th u CP (nI 0) (u9, vp_updL g 0 r, d) := ⟨by rw [h0], fun _ => by show CP (vp_updL g 0 r 0) u9; rw [vp_updL_s]; exact h, fun h9 => absurd h0 h9⟩
theorem lwD_of {th : Nat} {u u9 : CS} {CP : UInt64 → CS → Prop} {g : Nat → Int64} {d : Nat → UInt64} {r : UInt64} (h0 : th = 0) (h : CP r u9) : lwD th u CP (nI 0) (u9, g, vf_upd d 0 r) := ⟨by rw [h0], fun _ => by show CP (vf_upd d 0 r 0) u9; rw [vf_s]; exact h, fun h9 => absurd h0 h9⟩
theorem lwZ_of {th : Nat} {u u9 : CS} {b : Bool} {g : Nat → Int64} {d : Nat → UInt64} {r : Int64} (h0 : th = 0) (h : frP u u9) (hb : r = if b then 1 else 0) : lwZ th u b (nI 0) (u9, vp_updL g 0 r, d) := ⟨by rw [h0], fun _ => by show vp_updL g 0 r 0 = _; rw [vp_updL_s]; exact hb, h⟩

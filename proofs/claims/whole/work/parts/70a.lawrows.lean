/-! the law: its world, its script -/
def lA (s : State) : Nat → Prop := fun q => s.heap.size ≤ q
def wY (cy : Nat → ClassId) (ad : Nat → Nat) (o : Nat × Nat) (z : LZ) : va_W := wC cy ad z.1 ++ xL cy o z.2.1 z.2.2 []
theorem wL_Y (cy : Nat → ClassId) (ad : Nat → Nat) (o : Nat × Nat) (X : va_W) (z : LZ) : wL cy ad o X z = wY cy ad o z ++ X := by
  unfold wL wY
  rw [List.append_assoc]
  rfl
section LT
variable {dd : va_G} {cy : Nat → ClassId} {ad am : Nat → Nat} {o : Nat × Nat} {v : MS} {z : LZ} {H : Heap} {A : Nat → Prop}
theorem wT_M (h : va_P dd vwCl (wL cy ad o (wM cy am v) z) H) : va_P dd vwCl (wM cy am v ++ wY cy ad o z) H := by
  rw [wL_Y] at h
  exact va_P.swap (a := []) h
theorem wT_MD (h : va_D A (wL cy ad o (wM cy am v) z)) : va_D A (wM cy am v ++ wY cy ad o z) := by
  rw [wL_Y] at h
  exact va_D.swap (a := []) h
theorem wT_L (h : va_P dd vwCl (wM cy am v ++ wY cy ad o z) H) : va_P dd vwCl (wL cy ad o (wM cy am v) z) H := by
  rw [wL_Y]
  exact va_P.swap (a := []) h
theorem wT_LD (h : va_D A (wM cy am v ++ wY cy ad o z)) : va_D A (wL cy ad o (wM cy am v) z) := by
  rw [wL_Y]
  exact va_D.swap (a := []) h
end LT
theorem wY_69 (cy : Nat → ClassId) (ad am : Nat → Nat) (o : Nat × Nat) (v : MS) (u : CS) (g : Nat → Int64) (d : Nat → UInt64) : (wM cy am v ++ wY cy ad o (u, g, d))[69]? = some (o.1, .inl (cy 1, 1, .inr (.inl g))) := rfl
theorem wY_70 (cy : Nat → ClassId) (ad am : Nat → Nat) (o : Nat × Nat) (v : MS) (u : CS) (g : Nat → Int64) (d : Nat → UInt64) : (wM cy am v ++ wY cy ad o (u, g, d))[70]? = some (o.2, .inl (cy 2, 1, .inr (.inr (.inr (.inl d))))) := rfl
/-- what the law knows all along -/
def lcx (p : Program) (s : State) (m : MethodId) (c : Code) (dd : va_G) (cy : Nat → ClassId) (tt : Nat × Nat) (N : Nat → Nat) (b L : Nat) (xs : Nat → Int32) : Prop := p.tables.exec = Jvm.exec ∧ c.code = code ∧ c.maxLocals = 9 ∧ s.vm.findClass RL = some m.cls ∧ (∀ w ∈ wsL_law, w.before #[Value.ref b] s = true) ∧ va_X b L xs s s.heap ∧ b < s.heap.size ∧ va_K dd vwCl (tysW cy) s ∧ stC tt (lA s) s s.heap ∧ exC N (lA s) s s.heap ∧ ncL s
section LR
variable {p : Program} {l : Launch} {e : Env} {R : Room} {s : State} {m : MethodId} {args : Array Value} {below : List Frame} {meth : Method} {c : Code} {H : Heap} {locs : List Loc} {cells slots : Nat} {Q : State → Prop}
variable {cc : ByteArray} {pc : Nat} {ls : Array Slot} {rest : List Value} {A : Nat → Prop} {H0 : Heap}
theorem wa_sld (hexec : p.tables.exec = Jvm.exec) (hb : c.code = cc) {b L : Nat} {xs : Nat → Int32} (hX : va_X b L xs s H0) (hbl : b < H0.size) (hbA : ¬ A b) (hS : va_S A H0 H locs) {i : Nat} (hi : i < L) (hL : L < 2 ^ 31) (hdg : decode cc pc = .ok (.iaload, 1))
    (kk : W p l e R s m args below meth c H locs cells slots Q (F0 m (pc + 1) ls (.int (xs i) :: rest))) : W p l e R s m args below meth c H locs cells slots Q (F0 m pc ls (.int (nI i) :: .ref b :: rest)) := by
  refine va_sld hexec hb hX hbl hbA hS (vp_in_nI hi hL) hdg ?_
  rw [nI_clamp (Nat.lt_trans hi hL)]
  exact kk
end LR

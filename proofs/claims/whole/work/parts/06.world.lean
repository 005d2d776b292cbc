/-! the worlds: the cells of the class's object and of the reference's, what a call needs of them -/
theorem va_up_s {α : Type} (f : Nat → α) (k : Nat) (v : α) : va_up f k v k = v := if_pos rfl
theorem va_up_n {α : Type} {f : Nat → α} {k j : Nat} {v : α} (h : j ≠ k) : va_up f k v j = f j := if_neg h
abbrev tysW (cy : Nat → ClassId) : List (ClassId × FieldType) := [(cy 0, .int), (cy 1, .long), (cy 2, .double), (cy 3, .object "HeadGrid$State"), (cy 4, .array .long)]
def rdW (dd : va_G) (cy : Nat → ClassId) (ws : va_W) : State → Prop := fun U => va_P dd vwCl ws U.heap ∧ va_K dd vwCl (tysW cy) U
def wrW (dd : va_G) (cy : Nat → ClassId) (ws : va_W) (sz : Nat) : State → Prop := fun U => U.heap.size = sz ∧ va_P dd vwCl ws U.heap ∧ va_K dd vwCl (tysW cy) U ∧ va_D (fun _ => True) ws
def wB {S : Type} (dd : va_G) (cy : Nat → ClassId) (F : S → va_W) (A : Nat → Prop) : S → State → Prop := fun u t => va_P dd vwCl (F u) t.heap ∧ va_K dd vwCl (tysW cy) t ∧ va_D A (F u)
theorem rdW_blind {dd : va_G} {cy : Nat → ClassId} {ws : va_W} {av : List Value} : FrameBlind (va_Pc av (rdW dd cy ws)) :=
  fun a U g mk q => ⟨q.1, q.2.1, va_K.moved (u := U) (U := U.calling g mk a) (Vm.Alike.refl U.vm) q.2.2⟩
theorem wrW_blind {dd : va_G} {cy : Nat → ClassId} {ws : va_W} {sz : Nat} {av : List Value} : FrameBlind (va_Pc av (wrW dd cy ws sz)) :=
  fun a U g mk q => ⟨q.1, q.2.1, q.2.2.1, va_K.moved (u := U) (U := U.calling g mk a) (Vm.Alike.refl U.vm) q.2.2.2.1, q.2.2.2.2⟩
theorem rdW_S {dd : va_G} {cy : Nat → ClassId} {ws : va_W} {s : State} {H : Heap} {As : List Value} (hP : va_P dd vwCl ws H) (hK : va_K dd vwCl (tysW cy) s) : PreS s H (va_Pc As (rdW dd cy ws)) As :=
  ⟨rdW_blind, fun U hU hW => ⟨rfl, by rw [hU]; exact hP, va_K.moved hW.alike hK⟩⟩
theorem wrW_S {dd : va_G} {cy : Nat → ClassId} {ws : va_W} {s : State} {H : Heap} {A : Nat → Prop} {As : List Value} (hP : va_P dd vwCl ws H) (hK : va_K dd vwCl (tysW cy) s) (hD : va_D A ws) : PreS s H (va_Pc As (wrW dd cy ws H.size)) As :=
  ⟨wrW_blind, fun U hU hW => ⟨rfl, by rw [hU], by rw [hU]; exact hP, va_K.moved hW.alike hK, hD.weaken (fun _ _ _ _ => trivial)⟩⟩
theorem rdW_V {dd : va_G} {cy : Nat → ClassId} {ws : va_W} {s : State} {H : Heap} {b ci q0 : Nat} {fs : List Value} {q : vw_C} {As : List Value} (hP : va_P dd vwCl ws H) (hK : va_K dd vwCl (tysW cy) s) (he : ws[q0]? = some (b, .inr (ci, fs))) (hc : vwCl[ci]? = some q) : PreV s H q.1 b (va_Pc (.ref b :: As) (rdW dd cy ws)) As :=
  ⟨rdW_blind, va_recv hK hP (ci := ci) (q0 := q0) hc he, fun U hU hW => ⟨rfl, by rw [hU]; exact hP, va_K.moved hW.alike hK⟩⟩
theorem wrW_V {dd : va_G} {cy : Nat → ClassId} {ws : va_W} {s : State} {H : Heap} {A : Nat → Prop} {b ci q0 : Nat} {fs : List Value} {q : vw_C} {As : List Value} (hP : va_P dd vwCl ws H) (hK : va_K dd vwCl (tysW cy) s) (hD : va_D A ws) (he : ws[q0]? = some (b, .inr (ci, fs))) (hc : vwCl[ci]? = some q) : PreV s H q.1 b (va_Pc (.ref b :: As) (wrW dd cy ws H.size)) As :=
  ⟨wrW_blind, va_recv hK hP (ci := ci) (q0 := q0) hc he, fun U hU hW => ⟨rfl, by rw [hU], by rw [hU]; exact hP, va_K.moved hW.alike hK, hD.weaken (fun _ _ _ _ => trivial)⟩⟩
theorem va_free_all {A0 : Nat → Prop} {ws : va_W} {H0 H : Heap} {locs : List Loc} (hD : va_D A0 ws) (hS : va_S A0 H0 H locs) (hA : ∀ q, H0.size ≤ q → A0 q) : ∀ q, va_A ws H.size q → A0 q := by
  intro q h
  rcases h with ⟨k, e, h⟩ | h
  · exact hD.2 k (q, e) h
  · exact hA q (Nat.le_trans hS.1 h)
section WC
variable {p : Program} {l : Launch} {e : Env} {R : Room} {s : State} {m : MethodId} {args : Array Value} {below : List Frame} {meth : Method} {c : Code} {H : Heap} {locs : List Loc} {cells slots : Nat} {Q : State → Prop}
variable {pc : Nat} {ls : Array Slot} {rest st0 : List Value} {a : Array Value} {A0 : Nat → Prop} {H0 : Heap} {mc ms : Nat} {dd : va_G} {cy : Nat → ClassId} {ws : va_W}
theorem wc_calli {S : Type} {post : Int32 → S → Prop} {F : S → va_W} (hr : va_Run p l e R s m args below meth c H locs cells slots mc ms (F0 m pc ls st0) rest (va_Qi post (wB dd cy F (va_A ws H.size)) (va_A ws H.size) a) (va_A ws H.size)) (hD : va_D A0 ws) (hS : va_S A0 H0 H locs) (hA : ∀ q, H0.size ≤ q → A0 q)
    (kk : ∀ (r : Int32) (u : S) (H1 : Heap) (locs1 : List Loc), post r u → va_P dd vwCl (F u) H1 → va_D A0 (F u) → va_S A0 H0 H1 locs1 → W p l e R s m args below meth c H1 locs1 (cells + mc) (slots + ms) Q (F0 m (pc + 3) ls (.int r :: rest))) : W p l e R s m args below meth c H locs cells slots Q (F0 m pc ls st0) := by
  have hF := va_free_all hD hS hA
  refine va_calli hr hS (fun q _ h => hF q h) hF (fun r u t H1 locs ht hvm hw hB hz1 hk1 hS => ?_)
  obtain ⟨h1, h2, h3⟩ := hB
  rw [ht] at h1
  exact kk r u H1 locs hw h1 (h3.weaken (fun k q _ h => hF q.1 h)) hS
theorem wc_calll {S : Type} {post : Int64 → S → Prop} {F : S → va_W} (hr : va_Run p l e R s m args below meth c H locs cells slots mc ms (F0 m pc ls st0) rest (va_Ql post (wB dd cy F (va_A ws H.size)) (va_A ws H.size) a) (va_A ws H.size)) (hD : va_D A0 ws) (hS : va_S A0 H0 H locs) (hA : ∀ q, H0.size ≤ q → A0 q)
    (kk : ∀ (r : Int64) (u : S) (H1 : Heap) (locs1 : List Loc), post r u → va_P dd vwCl (F u) H1 → va_D A0 (F u) → va_S A0 H0 H1 locs1 → W p l e R s m args below meth c H1 locs1 (cells + mc) (slots + ms) Q (F0 m (pc + 3) ls (.long r :: rest))) : W p l e R s m args below meth c H locs cells slots Q (F0 m pc ls st0) := by
  have hF := va_free_all hD hS hA
  refine va_calll hr hS (fun q _ h => hF q h) hF (fun r u t H1 locs ht hvm hw hB hz1 hk1 hS => ?_)
  obtain ⟨h1, h2, h3⟩ := hB
  rw [ht] at h1
  exact kk r u H1 locs hw h1 (h3.weaken (fun k q _ h => hF q.1 h)) hS
theorem wc_calld {S : Type} {post : UInt64 → S → Prop} {F : S → va_W} (hr : va_Run p l e R s m args below meth c H locs cells slots mc ms (F0 m pc ls st0) rest (va_Qd post (wB dd cy F (va_A ws H.size)) (va_A ws H.size) a) (va_A ws H.size)) (hD : va_D A0 ws) (hS : va_S A0 H0 H locs) (hA : ∀ q, H0.size ≤ q → A0 q)
    (kk : ∀ (r : UInt64) (u : S) (H1 : Heap) (locs1 : List Loc), post r u → va_P dd vwCl (F u) H1 → va_D A0 (F u) → va_S A0 H0 H1 locs1 → W p l e R s m args below meth c H1 locs1 (cells + mc) (slots + ms) Q (F0 m (pc + 3) ls (.double r :: rest))) : W p l e R s m args below meth c H locs cells slots Q (F0 m pc ls st0) := by
  have hF := va_free_all hD hS hA
  refine va_calld hr hS (fun q _ h => hF q h) hF (fun r u t H1 locs ht hvm hw hB hz1 hk1 hS => ?_)
  obtain ⟨h1, h2, h3⟩ := hB
  rw [ht] at h1
  exact kk r u H1 locs hw h1 (h3.weaken (fun k q _ h => hF q.1 h)) hS
theorem wc_callv {S : Type} {post : S → Prop} {F : S → va_W} (hr : va_Run p l e R s m args below meth c H locs cells slots mc ms (F0 m pc ls st0) rest (va_Qv post (wB dd cy F (va_A ws H.size)) (va_A ws H.size) a) (va_A ws H.size)) (hD : va_D A0 ws) (hS : va_S A0 H0 H locs) (hA : ∀ q, H0.size ≤ q → A0 q)
    (kk : ∀ (u : S) (H1 : Heap) (locs1 : List Loc), post u → va_P dd vwCl (F u) H1 → va_D A0 (F u) → va_S A0 H0 H1 locs1 → W p l e R s m args below meth c H1 locs1 (cells + mc) (slots + ms) Q (F0 m (pc + 3) ls rest)) : W p l e R s m args below meth c H locs cells slots Q (F0 m pc ls st0) := by
  have hF := va_free_all hD hS hA
  refine va_callv hr hS (fun q _ h => hF q h) hF (fun u t H1 locs ht hvm hw hB hz1 hk1 hS => ?_)
  obtain ⟨h1, h2, h3⟩ := hB
  rw [ht] at h1
  exact kk u H1 locs hw h1 (h3.weaken (fun k q _ h => hF q.1 h)) hS
end WC
/-- the reference's numbers: its ints, doubles, longs by cell and place; kept, thrown, whole, hash -/
abbrev MS : Type := (Nat → Nat → Int32) × (Nat → Nat → UInt64) × (Nat → Nat → Int64) × Int32 × Int32 × Int64 × Int64
def wM (cy : Nat → ClassId) (ad : Nat → Nat) (u : MS) : va_W := [(ad 0, .inr (5, [.ref (ad 1), .ref (ad 2), .ref (ad 3), .ref (ad 4), .int (u.2.2.2.1), .int (u.2.2.2.2.1), .ref (ad 5), .ref (ad 6), .ref (ad 7), .ref (ad 8), .long (u.2.2.2.2.2.1), .ref (ad 9), .ref (ad 10), .ref (ad 11), .long (u.2.2.2.2.2.2)])), (ad 1, .inl (cy 0, 72, .inl (u.1 1))), (ad 2, .inl (cy 2, 9, .inr (.inr (.inr (.inl (u.2.1 2)))))), (ad 3, .inl (cy 0, 288, .inl (u.1 3))), (ad 4, .inl (cy 2, 36, .inr (.inr (.inr (.inl (u.2.1 4)))))), (ad 5, .inl (cy 1, 81, .inr (.inl (u.2.2.1 5)))), (ad 6, .inl (cy 1, 9, .inr (.inl (u.2.2.1 6)))), (ad 7, .inl (cy 1, 512, .inr (.inl (u.2.2.1 7)))), (ad 8, .inl (cy 1, 81, .inr (.inl (u.2.2.1 8)))), (ad 9, .inl (cy 1, 9, .inr (.inl (u.2.2.1 9)))), (ad 10, .inl (cy 1, 9, .inr (.inl (u.2.2.1 10)))), (ad 11, .inl (cy 1, 9, .inr (.inl (u.2.2.1 11))))]
theorem wM_0 (cy : Nat → ClassId) (ad : Nat → Nat) (u : MS) (X : va_W) : (wM cy ad u ++ X)[0]? = some (ad 0, .inr (5, [.ref (ad 1), .ref (ad 2), .ref (ad 3), .ref (ad 4), .int (u.2.2.2.1), .int (u.2.2.2.2.1), .ref (ad 5), .ref (ad 6), .ref (ad 7), .ref (ad 8), .long (u.2.2.2.2.2.1), .ref (ad 9), .ref (ad 10), .ref (ad 11), .long (u.2.2.2.2.2.2)])) := rfl
theorem wM_1 (cy : Nat → ClassId) (ad : Nat → Nat) (u : MS) (X : va_W) : (wM cy ad u ++ X)[1]? = some (ad 1, .inl (cy 0, 72, .inl (u.1 1))) := rfl
theorem wM_2 (cy : Nat → ClassId) (ad : Nat → Nat) (u : MS) (X : va_W) : (wM cy ad u ++ X)[2]? = some (ad 2, .inl (cy 2, 9, .inr (.inr (.inr (.inl (u.2.1 2)))))) := rfl
theorem wM_3 (cy : Nat → ClassId) (ad : Nat → Nat) (u : MS) (X : va_W) : (wM cy ad u ++ X)[3]? = some (ad 3, .inl (cy 0, 288, .inl (u.1 3))) := rfl
theorem wM_4 (cy : Nat → ClassId) (ad : Nat → Nat) (u : MS) (X : va_W) : (wM cy ad u ++ X)[4]? = some (ad 4, .inl (cy 2, 36, .inr (.inr (.inr (.inl (u.2.1 4)))))) := rfl
theorem wM_5 (cy : Nat → ClassId) (ad : Nat → Nat) (u : MS) (X : va_W) : (wM cy ad u ++ X)[5]? = some (ad 5, .inl (cy 1, 81, .inr (.inl (u.2.2.1 5)))) := rfl
theorem wM_6 (cy : Nat → ClassId) (ad : Nat → Nat) (u : MS) (X : va_W) : (wM cy ad u ++ X)[6]? = some (ad 6, .inl (cy 1, 9, .inr (.inl (u.2.2.1 6)))) := rfl
theorem wM_7 (cy : Nat → ClassId) (ad : Nat → Nat) (u : MS) (X : va_W) : (wM cy ad u ++ X)[7]? = some (ad 7, .inl (cy 1, 512, .inr (.inl (u.2.2.1 7)))) := rfl
theorem wM_8 (cy : Nat → ClassId) (ad : Nat → Nat) (u : MS) (X : va_W) : (wM cy ad u ++ X)[8]? = some (ad 8, .inl (cy 1, 81, .inr (.inl (u.2.2.1 8)))) := rfl
theorem wM_9 (cy : Nat → ClassId) (ad : Nat → Nat) (u : MS) (X : va_W) : (wM cy ad u ++ X)[9]? = some (ad 9, .inl (cy 1, 9, .inr (.inl (u.2.2.1 9)))) := rfl
theorem wM_10 (cy : Nat → ClassId) (ad : Nat → Nat) (u : MS) (X : va_W) : (wM cy ad u ++ X)[10]? = some (ad 10, .inl (cy 1, 9, .inr (.inl (u.2.2.1 10)))) := rfl
theorem wM_11 (cy : Nat → ClassId) (ad : Nat → Nat) (u : MS) (X : va_W) : (wM cy ad u ++ X)[11]? = some (ad 11, .inl (cy 1, 9, .inr (.inl (u.2.2.1 11)))) := rfl
theorem wM_s1 (cy : Nat → ClassId) (ad : Nat → Nat) (u : MS) (X : va_W) (f : Nat → Int32) : (wM cy ad u ++ X).set 1 (ad 1, .inl (cy 0, 72, .inl f)) = wM cy ad (va_up u.1 1 f, u.2) ++ X := rfl
theorem wM_s2 (cy : Nat → ClassId) (ad : Nat → Nat) (u : MS) (X : va_W) (f : Nat → UInt64) : (wM cy ad u ++ X).set 2 (ad 2, .inl (cy 2, 9, .inr (.inr (.inr (.inl f))))) = wM cy ad (u.1, va_up u.2.1 2 f, u.2.2) ++ X := rfl
theorem wM_s3 (cy : Nat → ClassId) (ad : Nat → Nat) (u : MS) (X : va_W) (f : Nat → Int32) : (wM cy ad u ++ X).set 3 (ad 3, .inl (cy 0, 288, .inl f)) = wM cy ad (va_up u.1 3 f, u.2) ++ X := rfl
theorem wM_s4 (cy : Nat → ClassId) (ad : Nat → Nat) (u : MS) (X : va_W) (f : Nat → UInt64) : (wM cy ad u ++ X).set 4 (ad 4, .inl (cy 2, 36, .inr (.inr (.inr (.inl f))))) = wM cy ad (u.1, va_up u.2.1 4 f, u.2.2) ++ X := rfl
theorem wM_s5 (cy : Nat → ClassId) (ad : Nat → Nat) (u : MS) (X : va_W) (f : Nat → Int64) : (wM cy ad u ++ X).set 5 (ad 5, .inl (cy 1, 81, .inr (.inl f))) = wM cy ad (u.1, u.2.1, va_up u.2.2.1 5 f, u.2.2.2) ++ X := rfl
theorem wM_s6 (cy : Nat → ClassId) (ad : Nat → Nat) (u : MS) (X : va_W) (f : Nat → Int64) : (wM cy ad u ++ X).set 6 (ad 6, .inl (cy 1, 9, .inr (.inl f))) = wM cy ad (u.1, u.2.1, va_up u.2.2.1 6 f, u.2.2.2) ++ X := rfl
theorem wM_s7 (cy : Nat → ClassId) (ad : Nat → Nat) (u : MS) (X : va_W) (f : Nat → Int64) : (wM cy ad u ++ X).set 7 (ad 7, .inl (cy 1, 512, .inr (.inl f))) = wM cy ad (u.1, u.2.1, va_up u.2.2.1 7 f, u.2.2.2) ++ X := rfl
theorem wM_s8 (cy : Nat → ClassId) (ad : Nat → Nat) (u : MS) (X : va_W) (f : Nat → Int64) : (wM cy ad u ++ X).set 8 (ad 8, .inl (cy 1, 81, .inr (.inl f))) = wM cy ad (u.1, u.2.1, va_up u.2.2.1 8 f, u.2.2.2) ++ X := rfl
theorem wM_s9 (cy : Nat → ClassId) (ad : Nat → Nat) (u : MS) (X : va_W) (f : Nat → Int64) : (wM cy ad u ++ X).set 9 (ad 9, .inl (cy 1, 9, .inr (.inl f))) = wM cy ad (u.1, u.2.1, va_up u.2.2.1 9 f, u.2.2.2) ++ X := rfl
theorem wM_s10 (cy : Nat → ClassId) (ad : Nat → Nat) (u : MS) (X : va_W) (f : Nat → Int64) : (wM cy ad u ++ X).set 10 (ad 10, .inl (cy 1, 9, .inr (.inl f))) = wM cy ad (u.1, u.2.1, va_up u.2.2.1 10 f, u.2.2.2) ++ X := rfl
theorem wM_s11 (cy : Nat → ClassId) (ad : Nat → Nat) (u : MS) (X : va_W) (f : Nat → Int64) : (wM cy ad u ++ X).set 11 (ad 11, .inl (cy 1, 9, .inr (.inl f))) = wM cy ad (u.1, u.2.1, va_up u.2.2.1 11 f, u.2.2.2) ++ X := rfl
theorem wM_kept (cy : Nat → ClassId) (ad : Nat → Nat) (u : MS) (X : va_W) (v : Int32) : (wM cy ad u ++ X).set 0 (ad 0, .inr (5, [.ref (ad 1), .ref (ad 2), .ref (ad 3), .ref (ad 4), .int (v), .int (u.2.2.2.2.1), .ref (ad 5), .ref (ad 6), .ref (ad 7), .ref (ad 8), .long (u.2.2.2.2.2.1), .ref (ad 9), .ref (ad 10), .ref (ad 11), .long (u.2.2.2.2.2.2)])) = wM cy ad (u.1, u.2.1, u.2.2.1, v, u.2.2.2.2) ++ X := rfl
theorem wM_thrown (cy : Nat → ClassId) (ad : Nat → Nat) (u : MS) (X : va_W) (v : Int32) : (wM cy ad u ++ X).set 0 (ad 0, .inr (5, [.ref (ad 1), .ref (ad 2), .ref (ad 3), .ref (ad 4), .int (u.2.2.2.1), .int (v), .ref (ad 5), .ref (ad 6), .ref (ad 7), .ref (ad 8), .long (u.2.2.2.2.2.1), .ref (ad 9), .ref (ad 10), .ref (ad 11), .long (u.2.2.2.2.2.2)])) = wM cy ad (u.1, u.2.1, u.2.2.1, u.2.2.2.1, v, u.2.2.2.2.2) ++ X := rfl
theorem wM_whole (cy : Nat → ClassId) (ad : Nat → Nat) (u : MS) (X : va_W) (v : Int64) : (wM cy ad u ++ X).set 0 (ad 0, .inr (5, [.ref (ad 1), .ref (ad 2), .ref (ad 3), .ref (ad 4), .int (u.2.2.2.1), .int (u.2.2.2.2.1), .ref (ad 5), .ref (ad 6), .ref (ad 7), .ref (ad 8), .long (v), .ref (ad 9), .ref (ad 10), .ref (ad 11), .long (u.2.2.2.2.2.2)])) = wM cy ad (u.1, u.2.1, u.2.2.1, u.2.2.2.1, u.2.2.2.2.1, v, u.2.2.2.2.2.2) ++ X := rfl
theorem wM_hash (cy : Nat → ClassId) (ad : Nat → Nat) (u : MS) (X : va_W) (v : Int64) : (wM cy ad u ++ X).set 0 (ad 0, .inr (5, [.ref (ad 1), .ref (ad 2), .ref (ad 3), .ref (ad 4), .int (u.2.2.2.1), .int (u.2.2.2.2.1), .ref (ad 5), .ref (ad 6), .ref (ad 7), .ref (ad 8), .long (u.2.2.2.2.2.1), .ref (ad 9), .ref (ad 10), .ref (ad 11), .long (v)])) = wM cy ad (u.1, u.2.1, u.2.2.1, u.2.2.2.1, u.2.2.2.2.1, u.2.2.2.2.2.1, v) ++ X := rfl
/-- the class's numbers: ints, doubles, longs by cell and place; savedCount, solved, denominator; which block each saved place holds -/
abbrev CS : Type := (Nat → Nat → Int32) × (Nat → Nat → UInt64) × (Nat → Nat → Int64) × Int32 × Int32 × Int64 × (Nat → Nat)
def wC (cy : Nat → ClassId) (ad : Nat → Nat) (u : CS) : va_W := [(ad 0, .inr (4, [.ref (ad 17), .ref (ad 1), .int (u.2.2.2.1), .ref (ad 2), .int (u.2.2.2.2.1), .ref (ad 6), .ref (ad 7)])), (ad 1, .inl (cy 3, 4, .inr (.inr (.inr (.inr (fun i => some (ad (17 + 8 * u.2.2.2.2.2.2 i)))))))), (ad 2, .inr (2, [.ref (ad 3), .ref (ad 4), .ref (ad 5), .long (u.2.2.2.2.2.1)])), (ad 3, .inl (cy 4, 9, .inr (.inr (.inr (.inr (fun i => some (ad (8 + i)))))))), (ad 4, .inl (cy 1, 9, .inr (.inl (u.2.2.1 4)))), (ad 5, .inl (cy 1, 9, .inr (.inl (u.2.2.1 5)))), (ad 6, .inl (cy 1, 9, .inr (.inl (u.2.2.1 6)))), (ad 7, .inl (cy 1, 9, .inr (.inl (u.2.2.1 7)))), (ad 8, .inl (cy 1, 18, .inr (.inl (u.2.2.1 8)))), (ad 9, .inl (cy 1, 18, .inr (.inl (u.2.2.1 9)))), (ad 10, .inl (cy 1, 18, .inr (.inl (u.2.2.1 10)))), (ad 11, .inl (cy 1, 18, .inr (.inl (u.2.2.1 11)))), (ad 12, .inl (cy 1, 18, .inr (.inl (u.2.2.1 12)))), (ad 13, .inl (cy 1, 18, .inr (.inl (u.2.2.1 13)))), (ad 14, .inl (cy 1, 18, .inr (.inl (u.2.2.1 14)))), (ad 15, .inl (cy 1, 18, .inr (.inl (u.2.2.1 15)))), (ad 16, .inl (cy 1, 18, .inr (.inl (u.2.2.1 16)))), (ad 17, .inr (3, [.ref (ad 18), .ref (ad 19), .ref (ad 20), .ref (ad 21), .ref (ad 22), .ref (ad 23), .ref (ad 24)])), (ad 18, .inl (cy 0, 24, .inl (u.1 18))), (ad 19, .inl (cy 0, 12, .inl (u.1 19))), (ad 20, .inl (cy 0, 9, .inl (u.1 20))), (ad 21, .inl (cy 0, 9, .inl (u.1 21))), (ad 22, .inl (cy 0, 9, .inl (u.1 22))), (ad 23, .inl (cy 0, 9, .inl (u.1 23))), (ad 24, .inl (cy 2, 9, .inr (.inr (.inr (.inl (u.2.1 24)))))), (ad 25, .inr (3, [.ref (ad 26), .ref (ad 27), .ref (ad 28), .ref (ad 29), .ref (ad 30), .ref (ad 31), .ref (ad 32)])), (ad 26, .inl (cy 0, 24, .inl (u.1 26))), (ad 27, .inl (cy 0, 12, .inl (u.1 27))), (ad 28, .inl (cy 0, 9, .inl (u.1 28))), (ad 29, .inl (cy 0, 9, .inl (u.1 29))), (ad 30, .inl (cy 0, 9, .inl (u.1 30))), (ad 31, .inl (cy 0, 9, .inl (u.1 31))), (ad 32, .inl (cy 2, 9, .inr (.inr (.inr (.inl (u.2.1 32)))))), (ad 33, .inr (3, [.ref (ad 34), .ref (ad 35), .ref (ad 36), .ref (ad 37), .ref (ad 38), .ref (ad 39), .ref (ad 40)])), (ad 34, .inl (cy 0, 24, .inl (u.1 34))), (ad 35, .inl (cy 0, 12, .inl (u.1 35))), (ad 36, .inl (cy 0, 9, .inl (u.1 36))), (ad 37, .inl (cy 0, 9, .inl (u.1 37))), (ad 38, .inl (cy 0, 9, .inl (u.1 38))), (ad 39, .inl (cy 0, 9, .inl (u.1 39))), (ad 40, .inl (cy 2, 9, .inr (.inr (.inr (.inl (u.2.1 40)))))), (ad 41, .inr (3, [.ref (ad 42), .ref (ad 43), .ref (ad 44), .ref (ad 45), .ref (ad 46), .ref (ad 47), .ref (ad 48)])), (ad 42, .inl (cy 0, 24, .inl (u.1 42))), (ad 43, .inl (cy 0, 12, .inl (u.1 43))), (ad 44, .inl (cy 0, 9, .inl (u.1 44))), (ad 45, .inl (cy 0, 9, .inl (u.1 45))), (ad 46, .inl (cy 0, 9, .inl (u.1 46))), (ad 47, .inl (cy 0, 9, .inl (u.1 47))), (ad 48, .inl (cy 2, 9, .inr (.inr (.inr (.inl (u.2.1 48)))))), (ad 49, .inr (3, [.ref (ad 50), .ref (ad 51), .ref (ad 52), .ref (ad 53), .ref (ad 54), .ref (ad 55), .ref (ad 56)])), (ad 50, .inl (cy 0, 24, .inl (u.1 50))), (ad 51, .inl (cy 0, 12, .inl (u.1 51))), (ad 52, .inl (cy 0, 9, .inl (u.1 52))), (ad 53, .inl (cy 0, 9, .inl (u.1 53))), (ad 54, .inl (cy 0, 9, .inl (u.1 54))), (ad 55, .inl (cy 0, 9, .inl (u.1 55))), (ad 56, .inl (cy 2, 9, .inr (.inr (.inr (.inl (u.2.1 56))))))]
theorem wC_0 (cy : Nat → ClassId) (ad : Nat → Nat) (u : CS) (X : va_W) : (wC cy ad u ++ X)[0]? = some (ad 0, .inr (4, [.ref (ad 17), .ref (ad 1), .int (u.2.2.2.1), .ref (ad 2), .int (u.2.2.2.2.1), .ref (ad 6), .ref (ad 7)])) := rfl
theorem wC_1 (cy : Nat → ClassId) (ad : Nat → Nat) (u : CS) (X : va_W) : (wC cy ad u ++ X)[1]? = some (ad 1, .inl (cy 3, 4, .inr (.inr (.inr (.inr (fun i => some (ad (17 + 8 * u.2.2.2.2.2.2 i)))))))) := rfl
theorem wC_2 (cy : Nat → ClassId) (ad : Nat → Nat) (u : CS) (X : va_W) : (wC cy ad u ++ X)[2]? = some (ad 2, .inr (2, [.ref (ad 3), .ref (ad 4), .ref (ad 5), .long (u.2.2.2.2.2.1)])) := rfl
theorem wC_3 (cy : Nat → ClassId) (ad : Nat → Nat) (u : CS) (X : va_W) : (wC cy ad u ++ X)[3]? = some (ad 3, .inl (cy 4, 9, .inr (.inr (.inr (.inr (fun i => some (ad (8 + i)))))))) := rfl
theorem wC_4 (cy : Nat → ClassId) (ad : Nat → Nat) (u : CS) (X : va_W) : (wC cy ad u ++ X)[4]? = some (ad 4, .inl (cy 1, 9, .inr (.inl (u.2.2.1 4)))) := rfl
theorem wC_5 (cy : Nat → ClassId) (ad : Nat → Nat) (u : CS) (X : va_W) : (wC cy ad u ++ X)[5]? = some (ad 5, .inl (cy 1, 9, .inr (.inl (u.2.2.1 5)))) := rfl
theorem wC_6 (cy : Nat → ClassId) (ad : Nat → Nat) (u : CS) (X : va_W) : (wC cy ad u ++ X)[6]? = some (ad 6, .inl (cy 1, 9, .inr (.inl (u.2.2.1 6)))) := rfl
theorem wC_7 (cy : Nat → ClassId) (ad : Nat → Nat) (u : CS) (X : va_W) : (wC cy ad u ++ X)[7]? = some (ad 7, .inl (cy 1, 9, .inr (.inl (u.2.2.1 7)))) := rfl
theorem wC_row (cy : Nat → ClassId) (ad : Nat → Nat) (u : CS) (X : va_W) {i : Nat} (hi : i < 9) : (wC cy ad u ++ X)[8 + i]? = some (ad (8 + i), .inl (cy 1, 18, .inr (.inl (u.2.2.1 (8 + i))))) := by
  rcases (show i = 0 ∨ i = 1 ∨ i = 2 ∨ i = 3 ∨ i = 4 ∨ i = 5 ∨ i = 6 ∨ i = 7 ∨ i = 8 by omega) with rfl | rfl | rfl | rfl | rfl | rfl | rfl | rfl | rfl <;> rfl
theorem wC_st (cy : Nat → ClassId) (ad : Nat → Nat) (u : CS) (X : va_W) {b : Nat} (hb : b < 5) : (wC cy ad u ++ X)[17 + 8 * b]? = some (ad (17 + 8 * b), .inr (3, [.ref (ad (17 + 8 * b + 1)), .ref (ad (17 + 8 * b + 2)), .ref (ad (17 + 8 * b + 3)), .ref (ad (17 + 8 * b + 4)), .ref (ad (17 + 8 * b + 5)), .ref (ad (17 + 8 * b + 6)), .ref (ad (17 + 8 * b + 7))])) := by
  rcases (show b = 0 ∨ b = 1 ∨ b = 2 ∨ b = 3 ∨ b = 4 by omega) with rfl | rfl | rfl | rfl | rfl <;> rfl
theorem wC_a0 (cy : Nat → ClassId) (ad : Nat → Nat) (u : CS) (X : va_W) {b : Nat} (hb : b < 5) : (wC cy ad u ++ X)[17 + 8 * b + 1]? = some (ad (17 + 8 * b + 1), .inl (cy 0, 24, .inl (u.1 (17 + 8 * b + 1)))) := by
  rcases (show b = 0 ∨ b = 1 ∨ b = 2 ∨ b = 3 ∨ b = 4 by omega) with rfl | rfl | rfl | rfl | rfl <;> rfl
theorem wC_a1 (cy : Nat → ClassId) (ad : Nat → Nat) (u : CS) (X : va_W) {b : Nat} (hb : b < 5) : (wC cy ad u ++ X)[17 + 8 * b + 2]? = some (ad (17 + 8 * b + 2), .inl (cy 0, 12, .inl (u.1 (17 + 8 * b + 2)))) := by
  rcases (show b = 0 ∨ b = 1 ∨ b = 2 ∨ b = 3 ∨ b = 4 by omega) with rfl | rfl | rfl | rfl | rfl <;> rfl
theorem wC_a2 (cy : Nat → ClassId) (ad : Nat → Nat) (u : CS) (X : va_W) {b : Nat} (hb : b < 5) : (wC cy ad u ++ X)[17 + 8 * b + 3]? = some (ad (17 + 8 * b + 3), .inl (cy 0, 9, .inl (u.1 (17 + 8 * b + 3)))) := by
  rcases (show b = 0 ∨ b = 1 ∨ b = 2 ∨ b = 3 ∨ b = 4 by omega) with rfl | rfl | rfl | rfl | rfl <;> rfl
theorem wC_a3 (cy : Nat → ClassId) (ad : Nat → Nat) (u : CS) (X : va_W) {b : Nat} (hb : b < 5) : (wC cy ad u ++ X)[17 + 8 * b + 4]? = some (ad (17 + 8 * b + 4), .inl (cy 0, 9, .inl (u.1 (17 + 8 * b + 4)))) := by
  rcases (show b = 0 ∨ b = 1 ∨ b = 2 ∨ b = 3 ∨ b = 4 by omega) with rfl | rfl | rfl | rfl | rfl <;> rfl
theorem wC_a4 (cy : Nat → ClassId) (ad : Nat → Nat) (u : CS) (X : va_W) {b : Nat} (hb : b < 5) : (wC cy ad u ++ X)[17 + 8 * b + 5]? = some (ad (17 + 8 * b + 5), .inl (cy 0, 9, .inl (u.1 (17 + 8 * b + 5)))) := by
  rcases (show b = 0 ∨ b = 1 ∨ b = 2 ∨ b = 3 ∨ b = 4 by omega) with rfl | rfl | rfl | rfl | rfl <;> rfl
theorem wC_a5 (cy : Nat → ClassId) (ad : Nat → Nat) (u : CS) (X : va_W) {b : Nat} (hb : b < 5) : (wC cy ad u ++ X)[17 + 8 * b + 6]? = some (ad (17 + 8 * b + 6), .inl (cy 0, 9, .inl (u.1 (17 + 8 * b + 6)))) := by
  rcases (show b = 0 ∨ b = 1 ∨ b = 2 ∨ b = 3 ∨ b = 4 by omega) with rfl | rfl | rfl | rfl | rfl <;> rfl
theorem wC_a6 (cy : Nat → ClassId) (ad : Nat → Nat) (u : CS) (X : va_W) {b : Nat} (hb : b < 5) : (wC cy ad u ++ X)[17 + 8 * b + 7]? = some (ad (17 + 8 * b + 7), .inl (cy 2, 9, .inr (.inr (.inr (.inl (u.2.1 (17 + 8 * b + 7))))))) := by
  rcases (show b = 0 ∨ b = 1 ∨ b = 2 ∨ b = 3 ∨ b = 4 by omega) with rfl | rfl | rfl | rfl | rfl <;> rfl
theorem wC_n0 (cy : Nat → ClassId) (ad : Nat → Nat) (u : CS) (X : va_W) : (wC cy ad u ++ X)[18]? = some (ad 18, .inl (cy 0, 24, .inl (u.1 18))) := rfl
theorem wC_n1 (cy : Nat → ClassId) (ad : Nat → Nat) (u : CS) (X : va_W) : (wC cy ad u ++ X)[19]? = some (ad 19, .inl (cy 0, 12, .inl (u.1 19))) := rfl
theorem wC_n2 (cy : Nat → ClassId) (ad : Nat → Nat) (u : CS) (X : va_W) : (wC cy ad u ++ X)[20]? = some (ad 20, .inl (cy 0, 9, .inl (u.1 20))) := rfl
theorem wC_n3 (cy : Nat → ClassId) (ad : Nat → Nat) (u : CS) (X : va_W) : (wC cy ad u ++ X)[21]? = some (ad 21, .inl (cy 0, 9, .inl (u.1 21))) := rfl
theorem wC_n4 (cy : Nat → ClassId) (ad : Nat → Nat) (u : CS) (X : va_W) : (wC cy ad u ++ X)[22]? = some (ad 22, .inl (cy 0, 9, .inl (u.1 22))) := rfl
theorem wC_n5 (cy : Nat → ClassId) (ad : Nat → Nat) (u : CS) (X : va_W) : (wC cy ad u ++ X)[23]? = some (ad 23, .inl (cy 0, 9, .inl (u.1 23))) := rfl
theorem wC_n6 (cy : Nat → ClassId) (ad : Nat → Nat) (u : CS) (X : va_W) : (wC cy ad u ++ X)[24]? = some (ad 24, .inl (cy 2, 9, .inr (.inr (.inr (.inl (u.2.1 24)))))) := rfl
theorem wC_now (cy : Nat → ClassId) (ad : Nat → Nat) (u : CS) (X : va_W) : (wC cy ad u ++ X)[17]? = some (ad 17, .inr (3, [.ref (ad 18), .ref (ad 19), .ref (ad 20), .ref (ad 21), .ref (ad 22), .ref (ad 23), .ref (ad 24)])) := rfl
theorem wC_s4 (cy : Nat → ClassId) (ad : Nat → Nat) (u : CS) (X : va_W) (f : Nat → Int64) : (wC cy ad u ++ X).set 4 (ad 4, .inl (cy 1, 9, .inr (.inl f))) = wC cy ad (u.1, u.2.1, va_up u.2.2.1 4 f, u.2.2.2) ++ X := rfl
theorem wC_s5 (cy : Nat → ClassId) (ad : Nat → Nat) (u : CS) (X : va_W) (f : Nat → Int64) : (wC cy ad u ++ X).set 5 (ad 5, .inl (cy 1, 9, .inr (.inl f))) = wC cy ad (u.1, u.2.1, va_up u.2.2.1 5 f, u.2.2.2) ++ X := rfl
theorem wC_s6 (cy : Nat → ClassId) (ad : Nat → Nat) (u : CS) (X : va_W) (f : Nat → Int64) : (wC cy ad u ++ X).set 6 (ad 6, .inl (cy 1, 9, .inr (.inl f))) = wC cy ad (u.1, u.2.1, va_up u.2.2.1 6 f, u.2.2.2) ++ X := rfl
theorem wC_s7 (cy : Nat → ClassId) (ad : Nat → Nat) (u : CS) (X : va_W) (f : Nat → Int64) : (wC cy ad u ++ X).set 7 (ad 7, .inl (cy 1, 9, .inr (.inl f))) = wC cy ad (u.1, u.2.1, va_up u.2.2.1 7 f, u.2.2.2) ++ X := rfl
theorem wC_srow (cy : Nat → ClassId) (ad : Nat → Nat) (u : CS) (X : va_W) {i : Nat} (hi : i < 9) (f : Nat → Int64) : (wC cy ad u ++ X).set (8 + i) (ad (8 + i), .inl (cy 1, 18, .inr (.inl f))) = wC cy ad (u.1, u.2.1, va_up u.2.2.1 (8 + i) f, u.2.2.2) ++ X := by
  rcases (show i = 0 ∨ i = 1 ∨ i = 2 ∨ i = 3 ∨ i = 4 ∨ i = 5 ∨ i = 6 ∨ i = 7 ∨ i = 8 by omega) with rfl | rfl | rfl | rfl | rfl | rfl | rfl | rfl | rfl <;> rfl
theorem wC_sa0 (cy : Nat → ClassId) (ad : Nat → Nat) (u : CS) (X : va_W) {b : Nat} (hb : b < 5) (f : Nat → Int32) : (wC cy ad u ++ X).set (17 + 8 * b + 1) (ad (17 + 8 * b + 1), .inl (cy 0, 24, .inl f)) = wC cy ad (va_up u.1 (17 + 8 * b + 1) f, u.2) ++ X := by
  rcases (show b = 0 ∨ b = 1 ∨ b = 2 ∨ b = 3 ∨ b = 4 by omega) with rfl | rfl | rfl | rfl | rfl <;> rfl
theorem wC_sa1 (cy : Nat → ClassId) (ad : Nat → Nat) (u : CS) (X : va_W) {b : Nat} (hb : b < 5) (f : Nat → Int32) : (wC cy ad u ++ X).set (17 + 8 * b + 2) (ad (17 + 8 * b + 2), .inl (cy 0, 12, .inl f)) = wC cy ad (va_up u.1 (17 + 8 * b + 2) f, u.2) ++ X := by
  rcases (show b = 0 ∨ b = 1 ∨ b = 2 ∨ b = 3 ∨ b = 4 by omega) with rfl | rfl | rfl | rfl | rfl <;> rfl
theorem wC_sa2 (cy : Nat → ClassId) (ad : Nat → Nat) (u : CS) (X : va_W) {b : Nat} (hb : b < 5) (f : Nat → Int32) : (wC cy ad u ++ X).set (17 + 8 * b + 3) (ad (17 + 8 * b + 3), .inl (cy 0, 9, .inl f)) = wC cy ad (va_up u.1 (17 + 8 * b + 3) f, u.2) ++ X := by
  rcases (show b = 0 ∨ b = 1 ∨ b = 2 ∨ b = 3 ∨ b = 4 by omega) with rfl | rfl | rfl | rfl | rfl <;> rfl
theorem wC_sa3 (cy : Nat → ClassId) (ad : Nat → Nat) (u : CS) (X : va_W) {b : Nat} (hb : b < 5) (f : Nat → Int32) : (wC cy ad u ++ X).set (17 + 8 * b + 4) (ad (17 + 8 * b + 4), .inl (cy 0, 9, .inl f)) = wC cy ad (va_up u.1 (17 + 8 * b + 4) f, u.2) ++ X := by
  rcases (show b = 0 ∨ b = 1 ∨ b = 2 ∨ b = 3 ∨ b = 4 by omega) with rfl | rfl | rfl | rfl | rfl <;> rfl
theorem wC_sa4 (cy : Nat → ClassId) (ad : Nat → Nat) (u : CS) (X : va_W) {b : Nat} (hb : b < 5) (f : Nat → Int32) : (wC cy ad u ++ X).set (17 + 8 * b + 5) (ad (17 + 8 * b + 5), .inl (cy 0, 9, .inl f)) = wC cy ad (va_up u.1 (17 + 8 * b + 5) f, u.2) ++ X := by
  rcases (show b = 0 ∨ b = 1 ∨ b = 2 ∨ b = 3 ∨ b = 4 by omega) with rfl | rfl | rfl | rfl | rfl <;> rfl
theorem wC_sa5 (cy : Nat → ClassId) (ad : Nat → Nat) (u : CS) (X : va_W) {b : Nat} (hb : b < 5) (f : Nat → Int32) : (wC cy ad u ++ X).set (17 + 8 * b + 6) (ad (17 + 8 * b + 6), .inl (cy 0, 9, .inl f)) = wC cy ad (va_up u.1 (17 + 8 * b + 6) f, u.2) ++ X := by
  rcases (show b = 0 ∨ b = 1 ∨ b = 2 ∨ b = 3 ∨ b = 4 by omega) with rfl | rfl | rfl | rfl | rfl <;> rfl
theorem wC_sa6 (cy : Nat → ClassId) (ad : Nat → Nat) (u : CS) (X : va_W) {b : Nat} (hb : b < 5) (f : Nat → UInt64) : (wC cy ad u ++ X).set (17 + 8 * b + 7) (ad (17 + 8 * b + 7), .inl (cy 2, 9, .inr (.inr (.inr (.inl f))))) = wC cy ad (u.1, va_up u.2.1 (17 + 8 * b + 7) f, u.2.2) ++ X := by
  rcases (show b = 0 ∨ b = 1 ∨ b = 2 ∨ b = 3 ∨ b = 4 by omega) with rfl | rfl | rfl | rfl | rfl <;> rfl
theorem wC_scount (cy : Nat → ClassId) (ad : Nat → Nat) (u : CS) (X : va_W) (v : Int32) : (wC cy ad u ++ X).set 0 (ad 0, .inr (4, [.ref (ad 17), .ref (ad 1), .int (v), .ref (ad 2), .int (u.2.2.2.2.1), .ref (ad 6), .ref (ad 7)])) = wC cy ad (u.1, u.2.1, u.2.2.1, v, u.2.2.2.2) ++ X := rfl
theorem wC_ssolved (cy : Nat → ClassId) (ad : Nat → Nat) (u : CS) (X : va_W) (v : Int32) : (wC cy ad u ++ X).set 0 (ad 0, .inr (4, [.ref (ad 17), .ref (ad 1), .int (u.2.2.2.1), .ref (ad 2), .int (v), .ref (ad 6), .ref (ad 7)])) = wC cy ad (u.1, u.2.1, u.2.2.1, u.2.2.2.1, v, u.2.2.2.2.2) ++ X := rfl
theorem wC_sden (cy : Nat → ClassId) (ad : Nat → Nat) (u : CS) (X : va_W) (v : Int64) : (wC cy ad u ++ X).set 2 (ad 2, .inr (2, [.ref (ad 3), .ref (ad 4), .ref (ad 5), .long (v)])) = wC cy ad (u.1, u.2.1, u.2.2.1, u.2.2.2.1, u.2.2.2.2.1, v, u.2.2.2.2.2.2) ++ X := rfl
theorem wC_ssav (cy : Nat → ClassId) (ad : Nat → Nat) (u : CS) (X : va_W) (i b : Nat) : (wC cy ad u ++ X).set 1 (ad 1, .inl (cy 3, 4, .inr (.inr (.inr (.inr (va_up (fun i => some (ad (17 + 8 * u.2.2.2.2.2.2 i))) i (some (ad (17 + 8 * b))))))))) = wC cy ad (u.1, u.2.1, u.2.2.1, u.2.2.2.1, u.2.2.2.2.1, u.2.2.2.2.2.1, va_up u.2.2.2.2.2.2 i b) ++ X := by
  have h : va_up (fun i => some (ad (17 + 8 * u.2.2.2.2.2.2 i))) i (some (ad (17 + 8 * b))) = (fun j => some (ad (17 + 8 * va_up u.2.2.2.2.2.2 i b j))) := by
    funext j
    unfold va_up
    split <;> rfl
  rw [h]
  rfl

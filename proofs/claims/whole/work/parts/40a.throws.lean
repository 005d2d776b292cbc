/-! the class: exceptions that leave a method -/
abbrev xIO : String := "java/lang/IndexOutOfBoundsException"
abbrev xIA : String := "java/lang/IllegalArgumentException"
abbrev xAE : String := "java/lang/ArithmeticException"
abbrev xIS : String := "java/lang/IllegalStateException"
def exW (U : State) : Prop := va_Nw (.declares (Bundle.initS "java/lang/RuntimeException")) U ∧ va_Nw (.declares (Bundle.initS "java/lang/Exception")) U ∧ va_Nw (.declares (Bundle.initS Bundle.tN)) U ∧ va_Nw (.castable xIO xIO) U ∧ va_Nw (.castable xIA xIA) U ∧ va_Nw (.castable xAE xAE) U ∧ va_Nw (.castable xIS xIS) U
theorem exW.warm {u U : State} (hW : u.WarmedH U.vm) (h : exW u) : exW U := ⟨va_Nw.warmD hW h.1, va_Nw.warmD hW h.2.1, va_Nw.warmD hW h.2.2.1, va_Nw.warmC hW h.2.2.2.1, va_Nw.warmC hW h.2.2.2.2.1, va_Nw.warmC hW h.2.2.2.2.2.1, va_Nw.warmC hW h.2.2.2.2.2.2⟩
theorem exW.same {u U : State} (hv : u.vm = U.vm) (h : exW u) : exW U := ⟨va_Nw.same rfl hv h.1, va_Nw.same rfl hv h.2.1, va_Nw.same rfl hv h.2.2.1, va_Nw.same rfl hv h.2.2.2.1, va_Nw.same rfl hv h.2.2.2.2.1, va_Nw.same rfl hv h.2.2.2.2.2.1, va_Nw.same rfl hv h.2.2.2.2.2.2⟩
def exT (N : Nat → Nat) (U : State) : Prop := vk_R RX2 174 "there is no such link" (N 0) U ∧ vk_R RX2 179 "there is no such edge point" (N 1) U ∧ vk_R RX2 181 "there is no such cell" (N 2) U ∧ vk_R RX2 183 "there is no such side" (N 3) U ∧ vk_R RX2 187 "a value is out of range" (N 4) U ∧ vk_R RX2 190 "part is neither 0 nor 1" (N 5) U ∧ vk_R RX2 192 "cells is empty or contains a cell that does not exist" (N 6) U ∧ vk_R RX2 194 "a equals b" (N 7) U ∧ vk_R RX2 198 "the grid is loose" (N 8) U ∧ vk_R RX2 203 "there is no saved state" (N 9) U
theorem exT.warm {N : Nat → Nat} {u U : State} (hW : u.WarmedH U.vm) (h : exT N u) : exT N U := ⟨vk_R.warm hW h.1, vk_R.warm hW h.2.1, vk_R.warm hW h.2.2.1, vk_R.warm hW h.2.2.2.1, vk_R.warm hW h.2.2.2.2.1, vk_R.warm hW h.2.2.2.2.2.1, vk_R.warm hW h.2.2.2.2.2.2.1, vk_R.warm hW h.2.2.2.2.2.2.2.1, vk_R.warm hW h.2.2.2.2.2.2.2.2.1, vk_R.warm hW h.2.2.2.2.2.2.2.2.2⟩
theorem exT.same {N : Nat → Nat} {u U : State} (hv : u.vm = U.vm) (h : exT N u) : exT N U := ⟨vk_R.same hv.symm h.1, vk_R.same hv.symm h.2.1, vk_R.same hv.symm h.2.2.1, vk_R.same hv.symm h.2.2.2.1, vk_R.same hv.symm h.2.2.2.2.1, vk_R.same hv.symm h.2.2.2.2.2.1, vk_R.same hv.symm h.2.2.2.2.2.2.1, vk_R.same hv.symm h.2.2.2.2.2.2.2.1, vk_R.same hv.symm h.2.2.2.2.2.2.2.2.1, vk_R.same hv.symm h.2.2.2.2.2.2.2.2.2⟩
def exC (N : Nat → Nat) (A : Nat → Prop) (U : State) (H : Heap) : Prop := vx_Zq Bundle.tN "UNASSIGNED_STACK" Bundle.steD A U H ∧ vx_Zq Bundle.tN "SUPPRESSED_SENTINEL" Bundle.listD A U H ∧ exW U ∧ exT N U
theorem exC.warm {N : Nat → Nat} {A : Nat → Prop} {u U : State} {H : Heap} (hW : u.WarmedH U.vm) (h : exC N A u H) : exC N A U H := ⟨vx_Zq.moved hW.alike h.1, vx_Zq.moved hW.alike h.2.1, h.2.2.1.warm hW, h.2.2.2.warm hW⟩
theorem exC.same {N : Nat → Nat} {A : Nat → Prop} {u U : State} {H : Heap} (hv : u.vm = U.vm) (h : exC N A u H) : exC N A U H := by
  have hvm : u.vm.Alike U.vm := by rw [hv]; exact Vm.Alike.refl _
  exact ⟨vx_Zq.moved hvm h.1, vx_Zq.moved hvm h.2.1, h.2.2.1.same hv, h.2.2.2.same hv⟩
theorem exC.kept {N : Nat → Nat} {A : Nat → Prop} {U : State} {H H1 : Heap} (h : exC N A U H) (hq : ∀ a : Nat, a < H.size → ¬ A a → H1[a]? = H[a]?) : exC N A U H1 := ⟨h.1.kept hq, h.2.1.kept hq, h.2.2⟩
theorem exC.narrow {N : Nat → Nat} {A B : Nat → Prop} {U : State} {H : Heap} (h : exC N A U H) (hAB : ∀ q, B q → A q) : exC N B U H := ⟨h.1.narrow hAB, h.2.1.narrow hAB, h.2.2⟩
theorem exC.go {N : Nat → Nat} {A B : Nat → Prop} {s U : State} {H : Heap} {locs : List Loc} (h : exC N A s s.heap) (hS : va_S A s.heap H locs) (hW : s.WarmedH U.vm) (hU : U.heap = H) (hB : ∀ q, B q → A q) : exC N B U U.heap := by
  rw [hU]
  exact ((h.kept (fun a ha hn => hS.2.1 a ha hn)).narrow hB).warm hW
def exS (N : Nat → Nat) (sz : Nat) : State → Prop := fun U => U.heap.size = sz ∧ exC N (fun q => sz ≤ q) U U.heap
def wrX (dd : va_G) (cy : Nat → ClassId) (tt : Nat × Nat) (N : Nat → Nat) (ws : va_W) (sz : Nat) : State → Prop := fun U => wrC dd cy tt ws sz U ∧ exC N (va_A ws sz) U U.heap
theorem exS_blind {N : Nat → Nat} {sz : Nat} {av : List Value} : FrameBlind (va_Pc av (exS N sz)) := fun a U g mk q => ⟨q.1, q.2.1, exC.same (u := U) (U := U.calling g mk a) rfl q.2.2⟩
theorem wrX_blind {dd : va_G} {cy : Nat → ClassId} {tt : Nat × Nat} {N : Nat → Nat} {ws : va_W} {sz : Nat} {av : List Value} : FrameBlind (va_Pc av (wrX dd cy tt N ws sz)) :=
  fun a U g mk q => ⟨q.1, (wrC_blind (av := av) a U g mk ⟨q.1, q.2.1⟩).2, exC.same (u := U) (U := U.calling g mk a) rfl q.2.2⟩
section XB
variable {dd : va_G} {cy : Nat → ClassId} {tt : Nat × Nat} {N : Nat → Nat} {ws : va_W} {s : State} {H : Heap} {A : Nat → Prop} {locs : List Loc} {As : List Value}
theorem exS_S (hE : exC N A s s.heap) (hS : va_S A s.heap H locs) (hA : ∀ q, s.heap.size ≤ q → A q) : PreS s H (va_Pc As (exS N H.size)) As :=
  ⟨exS_blind, fun U hU hW => ⟨rfl, by rw [hU], hE.go hS hW hU (fun q h => hA q (Nat.le_trans hS.1 h))⟩⟩
theorem wrX_V {b ci q0 : Nat} {fs : List Value} {q : vw_C} (hP : va_P dd vwCl ws H) (hK : va_K dd vwCl (tysW cy) s) (hD : va_D A ws) (hSt : stC tt A s s.heap) (hE : exC N A s s.heap) (hS : va_S A s.heap H locs) (hA : ∀ q, s.heap.size ≤ q → A q) (he : ws[q0]? = some (b, .inr (ci, fs))) (hc : vwCl[ci]? = some q) : PreV s H q.1 b (va_Pc (.ref b :: As) (wrX dd cy tt N ws H.size)) As :=
  ⟨wrX_blind, va_recv hK hP (ci := ci) (q0 := q0) hc he, fun U hU hW => ⟨rfl, ((wrC_V (As := As) hP hK hD hSt hS hA he hc).2.2 U hU hW).2, hE.go hS hW hU (va_free_all hD hS hA)⟩⟩
end XB
section XR
variable {p : Program} {l : Launch} {e : Env} {R : Room} {s : State} {m : MethodId} {args : Array Value} {below : List Frame} {meth : Method} {c : Code} {H : Heap} {locs : List Loc} {cells slots : Nat} {Q : State → Prop}
variable {pc : Nat} {ls : Array Slot} {rest st0 : List Value} {a : Array Value} {A0 : Nat → Prop} {mc ms : Nat} {dd : va_G} {cy : Nat → ClassId} {ws : va_W}
/-- a test of an argument -/
theorem wx_req {ok : Bool} {cls : String} (hr : vx_Run p l e R s m args below meth c H locs cells slots mc ms (F0 m pc ls st0) rest (va_Qv (fun _ : Unit => ok = true) (fun _ _ => True) (fun q => H.size ≤ q) a) (vx_X (fun _ : Unit => ok = false) (fun E _ _ => E = cls) (fun q => H.size ≤ q)) (fun q => H.size ≤ q)) (hP : va_P dd vwCl ws H) (hS : va_S A0 s.heap H locs) (hA : ∀ q, s.heap.size ≤ q → A0 q)
    (kx : ∀ (E : String) (ce : Cell) (q9 : Addr) (H1 : Heap) (locs1 : List Loc), E = cls → ok = false → va_P dd vwCl ws H1 → va_S A0 s.heap H1 locs1 → H1[q9]? = some ce → ce.vm = .none → s.vm.findClass E = some ce.cls → vx_W p l e R s m args below meth c H1 locs1 (cells + mc) (slots + ms) Q (F0 m pc ls rest) q9)
    (kk : ∀ (H1 : Heap) (locs1 : List Loc), ok = true → va_P dd vwCl ws H1 → va_S A0 s.heap H1 locs1 → W p l e R s m args below meth c H1 locs1 (cells + mc) (slots + ms) Q (F0 m (pc + 3) ls rest)) : W p l e R s m args below meth c H locs cells slots Q (F0 m pc ls st0) := by
  have hk : ∀ H1 : Heap, (∀ q : Nat, q < H.size → ¬ H.size ≤ q → H1[q]? = H[q]?) → va_P dd vwCl ws H1 := fun H1 h => hP.kept (fun k q hq => h q.1 (hP k q hq).lt (Nat.not_le.mpr (hP k q hq).lt))
  refine vx_callv hr hS (fun q h1 h2 => absurd h2 (Nat.not_le.mpr h1)) (fun q h => hA q (Nat.le_trans hS.1 h)) (fun q h1 h2 => absurd h2 (Nat.not_le.mpr h1)) (fun E ce q9 u t H1 locs1 ht hvm hpx hb hz hq hS1 hce hcv hcl => ?_) (fun u t H1 locs1 ht hvm hp hb hz hq hS1 => ?_)
  · exact kx E ce q9 H1 locs1 hb hpx (hk H1 hq) hS1 hce hcv hcl
  · exact kk H1 locs1 hp (hk H1 hq) hS1
theorem wx_calli {S : Type} {post : Int32 → S → Prop} {px : S → Prop} {xs : String → S → Prop} {F : S → va_W} (hr : vx_Run p l e R s m args below meth c H locs cells slots mc ms (F0 m pc ls st0) rest (va_Qi post (wB dd cy F (va_A ws H.size)) (va_A ws H.size) a) (vx_X px (fun E u t => xs E u ∧ wB dd cy F (va_A ws H.size) u t) (va_A ws H.size)) (va_A ws H.size)) (hD : va_D A0 ws) (hS : va_S A0 s.heap H locs) (hA : ∀ q, s.heap.size ≤ q → A0 q)
    (kx : ∀ (E : String) (ce : Cell) (q9 : Addr) (u : S) (H1 : Heap) (locs1 : List Loc), xs E u → px u → va_P dd vwCl (F u) H1 → va_D A0 (F u) → va_S A0 s.heap H1 locs1 → H1[q9]? = some ce → ce.vm = .none → s.vm.findClass E = some ce.cls → vx_W p l e R s m args below meth c H1 locs1 (cells + mc) (slots + ms) Q (F0 m pc ls rest) q9)
    (kk : ∀ (r : Int32) (u : S) (H1 : Heap) (locs1 : List Loc), post r u → va_P dd vwCl (F u) H1 → va_D A0 (F u) → va_S A0 s.heap H1 locs1 → W p l e R s m args below meth c H1 locs1 (cells + mc) (slots + ms) Q (F0 m (pc + 3) ls (.int r :: rest))) : W p l e R s m args below meth c H locs cells slots Q (F0 m pc ls st0) := by
  have hF := va_free_all hD hS hA
  refine vx_calli hr hS (fun q _ h => hF q h) hF (fun q _ h => hF q h) (fun E ce q9 u t H1 locs1 ht hvm hpx hb hz hq hS1 hce hcv hcl => ?_) (fun r u t H1 locs1 ht hvm hp hb hz hq hS1 => ?_)
  · obtain ⟨hx, h1, h2, h3⟩ := hb
    rw [ht] at h1
    exact kx E ce q9 u H1 locs1 hx hpx h1 (h3.weaken (fun k q _ h => hF q.1 h)) hS1 hce hcv hcl
  · obtain ⟨h1, h2, h3⟩ := hb
    rw [ht] at h1
    exact kk r u H1 locs1 hp h1 (h3.weaken (fun k q _ h => hF q.1 h)) hS1
theorem wx_calll {S : Type} {post : Int64 → S → Prop} {px : S → Prop} {xs : String → S → Prop} {F : S → va_W} (hr : vx_Run p l e R s m args below meth c H locs cells slots mc ms (F0 m pc ls st0) rest (va_Ql post (wB dd cy F (va_A ws H.size)) (va_A ws H.size) a) (vx_X px (fun E u t => xs E u ∧ wB dd cy F (va_A ws H.size) u t) (va_A ws H.size)) (va_A ws H.size)) (hD : va_D A0 ws) (hS : va_S A0 s.heap H locs) (hA : ∀ q, s.heap.size ≤ q → A0 q)
    (kx : ∀ (E : String) (ce : Cell) (q9 : Addr) (u : S) (H1 : Heap) (locs1 : List Loc), xs E u → px u → va_P dd vwCl (F u) H1 → va_D A0 (F u) → va_S A0 s.heap H1 locs1 → H1[q9]? = some ce → ce.vm = .none → s.vm.findClass E = some ce.cls → vx_W p l e R s m args below meth c H1 locs1 (cells + mc) (slots + ms) Q (F0 m pc ls rest) q9)
    (kk : ∀ (r : Int64) (u : S) (H1 : Heap) (locs1 : List Loc), post r u → va_P dd vwCl (F u) H1 → va_D A0 (F u) → va_S A0 s.heap H1 locs1 → W p l e R s m args below meth c H1 locs1 (cells + mc) (slots + ms) Q (F0 m (pc + 3) ls (.long r :: rest))) : W p l e R s m args below meth c H locs cells slots Q (F0 m pc ls st0) := by
  have hF := va_free_all hD hS hA
  refine vx_calll hr hS (fun q _ h => hF q h) hF (fun q _ h => hF q h) (fun E ce q9 u t H1 locs1 ht hvm hpx hb hz hq hS1 hce hcv hcl => ?_) (fun r u t H1 locs1 ht hvm hp hb hz hq hS1 => ?_)
  · obtain ⟨hx, h1, h2, h3⟩ := hb
    rw [ht] at h1
    exact kx E ce q9 u H1 locs1 hx hpx h1 (h3.weaken (fun k q _ h => hF q.1 h)) hS1 hce hcv hcl
  · obtain ⟨h1, h2, h3⟩ := hb
    rw [ht] at h1
    exact kk r u H1 locs1 hp h1 (h3.weaken (fun k q _ h => hF q.1 h)) hS1
theorem wx_calld {S : Type} {post : UInt64 → S → Prop} {px : S → Prop} {xs : String → S → Prop} {F : S → va_W} (hr : vx_Run p l e R s m args below meth c H locs cells slots mc ms (F0 m pc ls st0) rest (va_Qd post (wB dd cy F (va_A ws H.size)) (va_A ws H.size) a) (vx_X px (fun E u t => xs E u ∧ wB dd cy F (va_A ws H.size) u t) (va_A ws H.size)) (va_A ws H.size)) (hD : va_D A0 ws) (hS : va_S A0 s.heap H locs) (hA : ∀ q, s.heap.size ≤ q → A0 q)
    (kx : ∀ (E : String) (ce : Cell) (q9 : Addr) (u : S) (H1 : Heap) (locs1 : List Loc), xs E u → px u → va_P dd vwCl (F u) H1 → va_D A0 (F u) → va_S A0 s.heap H1 locs1 → H1[q9]? = some ce → ce.vm = .none → s.vm.findClass E = some ce.cls → vx_W p l e R s m args below meth c H1 locs1 (cells + mc) (slots + ms) Q (F0 m pc ls rest) q9)
    (kk : ∀ (r : UInt64) (u : S) (H1 : Heap) (locs1 : List Loc), post r u → va_P dd vwCl (F u) H1 → va_D A0 (F u) → va_S A0 s.heap H1 locs1 → W p l e R s m args below meth c H1 locs1 (cells + mc) (slots + ms) Q (F0 m (pc + 3) ls (.double r :: rest))) : W p l e R s m args below meth c H locs cells slots Q (F0 m pc ls st0) := by
  have hF := va_free_all hD hS hA
  refine vx_calld hr hS (fun q _ h => hF q h) hF (fun q _ h => hF q h) (fun E ce q9 u t H1 locs1 ht hvm hpx hb hz hq hS1 hce hcv hcl => ?_) (fun r u t H1 locs1 ht hvm hp hb hz hq hS1 => ?_)
  · obtain ⟨hx, h1, h2, h3⟩ := hb
    rw [ht] at h1
    exact kx E ce q9 u H1 locs1 hx hpx h1 (h3.weaken (fun k q _ h => hF q.1 h)) hS1 hce hcv hcl
  · obtain ⟨h1, h2, h3⟩ := hb
    rw [ht] at h1
    exact kk r u H1 locs1 hp h1 (h3.weaken (fun k q _ h => hF q.1 h)) hS1
theorem wx_callv {S : Type} {post : S → Prop} {px : S → Prop} {xs : String → S → Prop} {F : S → va_W} (hr : vx_Run p l e R s m args below meth c H locs cells slots mc ms (F0 m pc ls st0) rest (va_Qv post (wB dd cy F (va_A ws H.size)) (va_A ws H.size) a) (vx_X px (fun E u t => xs E u ∧ wB dd cy F (va_A ws H.size) u t) (va_A ws H.size)) (va_A ws H.size)) (hD : va_D A0 ws) (hS : va_S A0 s.heap H locs) (hA : ∀ q, s.heap.size ≤ q → A0 q)
    (kx : ∀ (E : String) (ce : Cell) (q9 : Addr) (u : S) (H1 : Heap) (locs1 : List Loc), xs E u → px u → va_P dd vwCl (F u) H1 → va_D A0 (F u) → va_S A0 s.heap H1 locs1 → H1[q9]? = some ce → ce.vm = .none → s.vm.findClass E = some ce.cls → vx_W p l e R s m args below meth c H1 locs1 (cells + mc) (slots + ms) Q (F0 m pc ls rest) q9)
    (kk : ∀ (u : S) (H1 : Heap) (locs1 : List Loc), post u → va_P dd vwCl (F u) H1 → va_D A0 (F u) → va_S A0 s.heap H1 locs1 → W p l e R s m args below meth c H1 locs1 (cells + mc) (slots + ms) Q (F0 m (pc + 3) ls (rest))) : W p l e R s m args below meth c H locs cells slots Q (F0 m pc ls st0) := by
  have hF := va_free_all hD hS hA
  refine vx_callv hr hS (fun q _ h => hF q h) hF (fun q _ h => hF q h) (fun E ce q9 u t H1 locs1 ht hvm hpx hb hz hq hS1 hce hcv hcl => ?_) (fun u t H1 locs1 ht hvm hp hb hz hq hS1 => ?_)
  · obtain ⟨hx, h1, h2, h3⟩ := hb
    rw [ht] at h1
    exact kx E ce q9 u H1 locs1 hx hpx h1 (h3.weaken (fun k q _ h => hF q.1 h)) hS1 hce hcv hcl
  · obtain ⟨h1, h2, h3⟩ := hb
    rw [ht] at h1
    exact kk u H1 locs1 hp h1 (h3.weaken (fun k q _ h => hF q.1 h)) hS1
end XR
theorem ngIO : ∀ w ∈ (vx_atS RX2 176 xIO ["java/lang/RuntimeException", "java/lang/Exception"]).filter (fun w => !goodWord w), w ∈ ([.declares (Bundle.initS "java/lang/RuntimeException"), .declares (Bundle.initS "java/lang/Exception"), .declares (Bundle.initS Bundle.tN), .castable xIO xIO] : List Cond) := by decide +kernel
theorem otIO : ∀ w ∈ Cond.classLink RX2 172 xIO :: Cond.initialized xIO :: vx_atS RX2 176 xIO ["java/lang/RuntimeException", "java/lang/Exception"], vx_ot w = true := by decide +kernel
theorem atIO {args : Array Value} {s : State} (h1 : ∀ w ∈ (vx_atS RX2 176 xIO ["java/lang/RuntimeException", "java/lang/Exception"]).filter goodWord, w.before args s = true) (h : exW s) : ∀ w ∈ vx_atS RX2 176 xIO ["java/lang/RuntimeException", "java/lang/Exception"], w.before args s = true := vx_hat h1 ngIO (vx_c (va_Nw.use rfl h.1) (vx_c (va_Nw.use rfl h.2.1) (vx_c (va_Nw.use rfl h.2.2.1) (vx_c (va_Nw.use rfl h.2.2.2.1) vx_n))))
theorem ngIA : ∀ w ∈ (vx_atS RX2 189 xIA ["java/lang/RuntimeException", "java/lang/Exception"]).filter (fun w => !goodWord w), w ∈ ([.declares (Bundle.initS "java/lang/RuntimeException"), .declares (Bundle.initS "java/lang/Exception"), .declares (Bundle.initS Bundle.tN), .castable xIA xIA] : List Cond) := by decide +kernel
theorem otIA : ∀ w ∈ Cond.classLink RX2 185 xIA :: Cond.initialized xIA :: vx_atS RX2 189 xIA ["java/lang/RuntimeException", "java/lang/Exception"], vx_ot w = true := by decide +kernel
theorem atIA {args : Array Value} {s : State} (h1 : ∀ w ∈ (vx_atS RX2 189 xIA ["java/lang/RuntimeException", "java/lang/Exception"]).filter goodWord, w.before args s = true) (h : exW s) : ∀ w ∈ vx_atS RX2 189 xIA ["java/lang/RuntimeException", "java/lang/Exception"], w.before args s = true := vx_hat h1 ngIA (vx_c (va_Nw.use rfl h.1) (vx_c (va_Nw.use rfl h.2.1) (vx_c (va_Nw.use rfl h.2.2.1) (vx_c (va_Nw.use rfl h.2.2.2.2.1) vx_n))))
theorem ngAE : ∀ w ∈ (vx_atS RX2 200 xAE ["java/lang/RuntimeException", "java/lang/Exception"]).filter (fun w => !goodWord w), w ∈ ([.declares (Bundle.initS "java/lang/RuntimeException"), .declares (Bundle.initS "java/lang/Exception"), .declares (Bundle.initS Bundle.tN), .castable xAE xAE] : List Cond) := by decide +kernel
theorem otAE : ∀ w ∈ Cond.classLink RX2 196 xAE :: Cond.initialized xAE :: vx_atS RX2 200 xAE ["java/lang/RuntimeException", "java/lang/Exception"], vx_ot w = true := by decide +kernel
theorem atAE {args : Array Value} {s : State} (h1 : ∀ w ∈ (vx_atS RX2 200 xAE ["java/lang/RuntimeException", "java/lang/Exception"]).filter goodWord, w.before args s = true) (h : exW s) : ∀ w ∈ vx_atS RX2 200 xAE ["java/lang/RuntimeException", "java/lang/Exception"], w.before args s = true := vx_hat h1 ngAE (vx_c (va_Nw.use rfl h.1) (vx_c (va_Nw.use rfl h.2.1) (vx_c (va_Nw.use rfl h.2.2.1) (vx_c (va_Nw.use rfl h.2.2.2.2.2.1) vx_n))))
theorem ngIS : ∀ w ∈ (vx_atS RX2 205 xIS ["java/lang/RuntimeException", "java/lang/Exception"]).filter (fun w => !goodWord w), w ∈ ([.declares (Bundle.initS "java/lang/RuntimeException"), .declares (Bundle.initS "java/lang/Exception"), .declares (Bundle.initS Bundle.tN), .castable xIS xIS] : List Cond) := by decide +kernel
theorem otIS : ∀ w ∈ Cond.classLink RX2 201 xIS :: Cond.initialized xIS :: vx_atS RX2 205 xIS ["java/lang/RuntimeException", "java/lang/Exception"], vx_ot w = true := by decide +kernel
theorem atIS {args : Array Value} {s : State} (h1 : ∀ w ∈ (vx_atS RX2 205 xIS ["java/lang/RuntimeException", "java/lang/Exception"]).filter goodWord, w.before args s = true) (h : exW s) : ∀ w ∈ vx_atS RX2 205 xIS ["java/lang/RuntimeException", "java/lang/Exception"], w.before args s = true := vx_hat h1 ngIS (vx_c (va_Nw.use rfl h.1) (vx_c (va_Nw.use rfl h.2.1) (vx_c (va_Nw.use rfl h.2.2.1) (vx_c (va_Nw.use rfl h.2.2.2.2.2.2) vx_n))))
theorem fitN : ∀ n ∈ (["java/lang/RuntimeException", "java/lang/Exception"] : List String), Bundle.fit n = true := by decide +kernel
theorem fitIO : Bundle.fit xIO = true := by decide +kernel
theorem fitIA : Bundle.fit xIA = true := by decide +kernel
theorem fitAE : Bundle.fit xAE = true := by decide +kernel
theorem fitIS : Bundle.fit xIS = true := by decide +kernel
theorem inR_ok {v : Int32} {n : Nat} (hn : n + 1 < 2 ^ 31) (h0 : ¬ v < 0) (h1 : v < nI (n + 1)) : inR v (nI 0) (nI n) = true := by
  unfold inR
  rw [Bool.and_eq_true, decide_eq_true_eq, decide_eq_true_eq, Int32.le_iff_toInt_le, Int32.le_iff_toInt_le, nI_toInt (by omega), nI_toInt (by omega)]
  have h2 := Int32.lt_iff_toInt_lt.mp h1
  rw [nI_toInt (by omega)] at h2
  have h3 : ¬ v.toInt < 0 := fun q => h0 (Int32.lt_iff_toInt_lt.mpr q)
  omega
theorem inR_lo {v : Int32} {n : Nat} (h : v < 0) : inR v (nI 0) (nI n) = false := by
  unfold inR
  rw [Bool.and_eq_false_iff]
  left
  rw [decide_eq_false_iff_not, Int32.not_le]
  exact h
theorem inR_hi {v : Int32} {n : Nat} (hn : n + 1 < 2 ^ 31) (h : ¬ v < nI (n + 1)) : inR v (nI 0) (nI n) = false := by
  unfold inR
  rw [Bool.and_eq_false_iff]
  right
  rw [decide_eq_false_iff_not, Int32.le_iff_toInt_le, nI_toInt (by omega)]
  have h2 : ¬ v.toInt < (nI (n + 1)).toInt := fun q => h (Int32.lt_iff_toInt_lt.mpr q)
  rw [nI_toInt (by omega)] at h2
  omega
theorem inR_okL {v : Int32} {n : Nat} (h0 : ¬ v < 0) (h1 : v ≤ nI n) : inR v (nI 0) (nI n) = true := by
  unfold inR
  rw [Bool.and_eq_true, decide_eq_true_eq, decide_eq_true_eq]
  exact ⟨Int32.not_lt.mp h0, h1⟩
theorem inR_hiL {v : Int32} {n : Nat} (h : ¬ v ≤ nI n) : inR v (nI 0) (nI n) = false := by
  unfold inR
  rw [Bool.and_eq_false_iff]
  right
  rw [decide_eq_false_iff_not]; exact h
theorem inR_p0 {v : Int32} (h : v = 0) : inR v (nI 0) (nI 1) = true := by subst h; decide
theorem inR_p1 {v : Int32} (h : v = nI 1) : inR v (nI 0) (nI 1) = true := by subst h; decide
theorem inR_pn {v : Int32} (h0 : ¬ v = 0) (h1 : ¬ v = nI 1) : inR v (nI 0) (nI 1) = false := by
  cases q : inR v (nI 0) (nI 1)
  · rfl
  · obtain ⟨k, hk, e⟩ := inR_nat (n := 1) (by decide) q
    rcases (show k = 0 ∨ k = 1 by omega) with z | z
    · exact absurd (by rw [e, z]; rfl) h0
    · exact absurd (by rw [e, z]) h1
theorem inR_sok {v : Int32} (h0 : ¬ v ≤ 0) (h1 : v < nI 512) : inR v (nI 1) (nI 511) = true := by
  unfold inR
  rw [Bool.and_eq_true, decide_eq_true_eq, decide_eq_true_eq, Int32.le_iff_toInt_le, Int32.le_iff_toInt_le, nI_toInt (by omega), nI_toInt (by omega)]
  have h2 := Int32.lt_iff_toInt_lt.mp h1
  rw [nI_toInt (by omega)] at h2
  have h3 : ¬ v.toInt ≤ 0 := fun q => h0 (Int32.le_iff_toInt_le.mpr q)
  omega
theorem inR_slo {v : Int32} (h : v ≤ 0) : inR v (nI 1) (nI 511) = false := by
  unfold inR
  rw [Bool.and_eq_false_iff]
  left
  rw [decide_eq_false_iff_not, Int32.le_iff_toInt_le, nI_toInt (by omega)]
  have h2 := Int32.le_iff_toInt_le.mp h
  have h3 : (0 : Int32).toInt = 0 := by decide
  omega
theorem inR_shi {v : Int32} (h : ¬ v < nI 512) : inR v (nI 1) (nI 511) = false := by
  unfold inR
  rw [Bool.and_eq_false_iff]
  right
  rw [decide_eq_false_iff_not, Int32.le_iff_toInt_le, nI_toInt (by omega)]
  have h2 : ¬ v.toInt < (nI 512).toInt := fun q => h (Int32.lt_iff_toInt_lt.mpr q)
  rw [nI_toInt (by omega)] at h2
  omega

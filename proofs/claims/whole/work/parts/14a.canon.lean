/-! what the laid heads are, said of the settings alone -/
section WBI
variable {p : Program} {l : Launch} {e : Env} {R : Room} {s : State} {m : MethodId} {args : Array Value} {below : List Frame} {meth : Method} {c : Code} {H : Heap} {locs : List Loc} {cells slots : Nat} {Q : State → Prop}
variable {cc : ByteArray} {pc : Nat} {ls : Array Slot} {rest : List Value}
theorem wb_if_eq (hexec : p.tables.exec = Jvm.exec) (hb : c.code = cc) {b : Bool} {off : Int} {tgt : Nat} (hdg : decode cc pc = .ok (.ifCond .eq off, 3)) (ht : (pc : Int) + off = (tgt : Int))
    (kt : b = false → W p l e R s m args below meth c H locs cells slots Q (F0 m tgt ls rest)) (kf : b = true → W p l e R s m args below meth c H locs cells slots Q (F0 m (pc + 3) ls rest)) : W p l e R s m args below meth c H locs cells slots Q (F0 m pc ls (.int (bI b) :: rest)) :=
  lv_if_eq hexec hb hdg ht (fun h => kt (bI_0.mp h)) (fun h => kf (bI_n0.mp h))
theorem wb_if_ne (hexec : p.tables.exec = Jvm.exec) (hb : c.code = cc) {b : Bool} {off : Int} {tgt : Nat} (hdg : decode cc pc = .ok (.ifCond .ne off, 3)) (ht : (pc : Int) + off = (tgt : Int))
    (kt : b = true → W p l e R s m args below meth c H locs cells slots Q (F0 m tgt ls rest)) (kf : b = false → W p l e R s m args below meth c H locs cells slots Q (F0 m (pc + 3) ls rest)) : W p l e R s m args below meth c H locs cells slots Q (F0 m pc ls (.int (bI b) :: rest)) :=
  lv_if_ne hexec hb hdg ht (fun h => kt (bI_n0.mp h)) (fun h => kf (bI_0.mp h))
end WBI
theorem lsM_iff (u : MS) : lsM u = false ↔ nR (gNow (u.1 1)) 9 = 511 := by
  unfold lsM
  rw [lsR_n]
  have h := nR_lt (g := gNow (u.1 1)) 9
  constructor
  · intro q
    have q1 : ¬ nI (nR (gNow (u.1 1)) 9) ≠ nI 511 := by simpa using q
    exact (nI_eq (by omega) (by decide)).mp (Classical.byContradiction fun z => q1 z)
  · intro q
    show decide (nI (nR (gNow (u.1 1)) 9) ≠ nI 511) = false
    rw [q]
    decide
theorem lsM_congr {u u1 : MS} (h : u1.1 = u.1) : lsM u1 = lsM u := by unfold lsM; rw [h]
def cn (now : Nat → Int32) : MS := (fun _ => now, fun _ _ => 0, fun k => if k = 8 then (fun i => Int64.ofInt (cof 9 (AM now) (i / 9) (i % 9))) else (fun a => smL 9 (fun b => Int64.ofInt (cof 9 (AM now) a b) * rtR now b 4)), 0, 0, Int64.ofInt (det 9 (AM now)), 0)
theorem cn_9 (now : Nat → Int32) (a : Nat) : (cn now).2.2.1 9 a = smL 9 (fun b => Int64.ofInt (cof 9 (AM now) a b) * rtR now b 4) := rfl
theorem cn_8 (now : Nat → Int32) {a b : Nat} (hb : b < 9) : (cn now).2.2.1 8 (9 * a + b) = Int64.ofInt (cof 9 (AM now) a b) := by
  show Int64.ofInt (cof 9 (AM now) ((9 * a + b) / 9) ((9 * a + b) % 9)) = _
  rw [show (9 * a + b) / 9 = a by omega, show (9 * a + b) % 9 = b by omega]
section CN
variable {now : Nat → Int32} {u9 : MS}
theorem sv_9 (h : svd now u9) {a : Nat} (ha : a < 9) : u9.2.2.1 9 a = (cn now).2.2.1 9 a := h.2.2 a ha
theorem sv_8 (h : svd now u9) {a b : Nat} (ha : a < 9) (hb : b < 9) : u9.2.2.1 8 (9 * a + b) = (cn now).2.2.1 8 (9 * a + b) := by rw [cn_8 now hb]; exact h.2.1 a ha b hb
theorem sv_w (h : svd now u9) : u9.2.2.2.2.2.1 = (cn now).2.2.2.2.2.1 := h.1
theorem sv_hd (h : svd now u9) (hn : u9.1 1 = now) (e : Nat) : hdM u9 e = hdM (cn now) e := by
  unfold hdM
  by_cases he : e < 9
  · rw [if_pos he, if_pos he]; exact sv_9 h he
  · rw [if_neg he, if_neg he, hn, sv_w h]; rfl
theorem sv_fl (h : svd now u9) (hn : u9.1 1 = now) (k : Nat) : flM u9 k = flM (cn now) k := by
  unfold flM
  rw [sv_hd h hn, sv_hd h hn, hn]; rfl
theorem ifC_lt {d k : Nat} (hd : d < 4) (hk : k < 3) : ifC d k < 9 := by unfold ifC; (repeat' split) <;> omega
theorem sv_if (h : svd now u9) (hn : u9.1 1 = now) {d : Nat} (hd : d < 4) : ifM u9 d = ifM (cn now) d := by
  unfold ifM
  refine smL_congr (fun k hk => ?_)
  rw [sv_hd h hn, hn, sv_9 h (ifC_lt hd hk)]; rfl
theorem sv_dd (h : svd now u9) (hn : u9.1 1 = now) {q : Nat} (hq : q < 9) : ddM u9 q = ddM (cn now) q := by
  unfold ddM
  refine smL_congr (fun j hj => ?_)
  rw [sv_8 h hq hj, hn]; rfl
end CN
theorem ofI_nat {x : Int} (h : 0 ≤ x) : Int64.ofInt x = lN x.toNat := by
  show Int64.ofInt x = Int64.ofNat x.toNat
  rw [← Int64.ofInt_eq_ofNat, Int.toNat_of_nonneg h]
/-- what the numbers of a grid that isn't loose keep to -/
def GM (now : Nat → Int32) : Prop := nR (gNow now) 9 = 511 → (∀ i, i < 9 → ∀ j, j < 9 → cof 9 (AM now) i j = cof 9 (AM now) j i) ∧ (0 < det 9 (AM now) ∧ det 9 (AM now) < 2 ^ 62) ∧ (∀ a, a < 9 → ((cn now).2.2.1 9 a).toInt ≠ -2 ^ 63) ∧ (∀ k, k < 24 → (flM (cn now) k).toInt ≠ -2 ^ 63) ∧ (∀ d, d < 4 → (ifM (cn now) d).toInt ≠ -2 ^ 63) ∧ (∀ a, a < 9 → ∀ b, b < 9 → ((cn now).2.2.1 8 (9 * a + b)).toInt ≠ -2 ^ 63) ∧ ∀ a, a < 9 → (ddM (cn now) a).toInt ≠ -2 ^ 63
/-- a part of a number of wholes -/
def ptF (now : Nat → Int32) (v : Int64) (part : Int32) : Int64 := (if part = nI 0 then v else lN (det 9 (AM now)).toNat) / lN (Nat.gcd v.toInt.natAbs (det 9 (AM now)).toNat)
/-- which of its exceptions a call with a part throws -/
def lkT (t : Bool) (part : Int32) (lo : Bool) : Nat := if t then (if inR part (nI 0) (nI 1) then (if lo then 3 else 0) else 2) else 1
theorem inR_nat {v : Int32} {n : Nat} (hn : n < 2 ^ 31) (h : inR v (nI 0) (nI n) = true) : ∃ c, c < n + 1 ∧ v = nI c := by
  unfold inR at h
  rw [Bool.and_eq_true, decide_eq_true_eq, decide_eq_true_eq] at h
  have h1 : ¬ v < 0 := by rw [Int32.not_lt]; exact h.1
  obtain ⟨j, hj, e⟩ := nI_of2 (M := nI n) (n := n) (nI_toInt hn) h1 h.2
  exact ⟨j, by omega, e⟩
theorem nI_inR {c n : Nat} (hn : n < 2 ^ 31) (hc : c ≤ n) : inR (nI c) (nI 0) (nI n) = true := by
  unfold inR
  rw [Bool.and_eq_true, decide_eq_true_eq, decide_eq_true_eq]
  exact ⟨nI_le (Nat.zero_le c) (by omega), nI_le hc hn⟩

/-! the class's object and the reference: what they have in common -/
theorem rgM_cg {f g : Nat → Int32} (h : ∀ k, k < 72 → f k = g k) (hr : rgM g) : rgM f :=
  ⟨fun k hk => by rw [h k (by omega)]; exact hr.1 k hk, fun k h1 h2 => by rw [h k h2]; exact hr.2 k h1 h2⟩
theorem lsM_N (v : MS) : lsM v = lsN (v.1 1) := by
  have h := lsM_iff v
  unfold lsN
  by_cases e : nR (gNow (v.1 1)) 9 = 511
  · rw [h.mpr e]
    exact (decide_eq_false (fun q => q e)).symm
  · have h1 : lsM v = true := by
      cases q : lsM v
      · exact absurd (h.mp q) e
      · rfl
    rw [h1]
    exact (decide_eq_true e).symm
/-- a saved state -/
def tieS (bb : Nat) (u : CS) (v : MS) (i : Nat) : Prop := (∀ k, k < 72 → nwB u (u.2.2.2.2.2.2 i) k = v.1 3 (72 * i + k)) ∧ (∀ j, j < 9 → u.2.1 (17 + 8 * u.2.2.2.2.2.2 i + 7) j = v.2.1 4 (9 * i + j)) ∧ rgM (nwB u (u.2.2.2.2.2.2 i)) ∧ ∀ j, j < 9 → dB bb (u.2.1 (17 + 8 * u.2.2.2.2.2.2 i + 7) j)
/-- both have the same settings, relaxed heads and n saved states; no relaxed head is beyond bb -/
def Tie (n bb : Nat) (u : CS) (v : MS) : Prop := n ≤ 4 ∧ nI n = u.2.2.2.1 ∧ nI n = v.2.2.2.1 ∧ svOk u.2.2.2.2.2.2 ∧ slI u ∧ v.1 1 = nw u ∧ v.2.1 2 = u.2.1 24 ∧ rgM (nw u) ∧ (∀ j, j < 9 → dB bb (u.2.1 24 j)) ∧ ∀ i, i < n → tieS bb u v i
theorem tie_fr {n bb : Nat} {u u9 : CS} {v v9 : MS} (h : Tie n bb u v) (hf : frP u u9) (h1 : v9.1 = v.1) (h2 : v9.2.1 = v.2.1) (h3 : v9.2.2.2.1 = v.2.2.2.1) : Tie n bb u9 v9 := by
  obtain ⟨hn, hc, hk, hok, hsI, e1, e2, hrg, hB, hs⟩ := h
  obtain ⟨f1, f2, f3, f4, f5⟩ := hf
  refine ⟨hn, by rw [f3]; exact hc, by rw [h3]; exact hk, by rw [f4]; exact hok, f5, by rw [h1, e1]; exact (nw_congr f1).symm, by rw [h2, f2]; exact e2, by rw [nw_congr f1]; exact hrg, fun j hj => by rw [f2]; exact hB j hj, fun i hi => ?_⟩
  have hb : ∀ c, nwB u9 c = nwB u c := fun c => by unfold nwB; rw [f1]
  unfold tieS
  rw [f4, hb, f2, h1, h2]
  exact hs i hi
theorem tie_mono {n bb b2 : Nat} {u : CS} {v : MS} (h : Tie n bb u v) (hb : bb ≤ b2) : Tie n b2 u v := by
  obtain ⟨hn, hc, hk, hok, hsI, e1, e2, hrg, hB, hs⟩ := h
  exact ⟨hn, hc, hk, hok, hsI, e1, e2, hrg, fun j hj => dB_mono (hB j hj) hb, fun i hi => ⟨(hs i hi).1, (hs i hi).2.1, (hs i hi).2.2.1, fun j hj => dB_mono ((hs i hi).2.2.2 j hj) hb⟩⟩
theorem tie_sv {n bb b2 : Nat} {u u9 : CS} {v v9 : MS} (h : Tie n bb u v) (hs : svN n u u9) (hp : svP n v v9) (e1 : v9.1 1 = nw u9) (e2 : v9.2.1 2 = u9.2.1 24) (hr : rgM (nw u9)) (hb : ∀ j, j < 9 → dB b2 (u9.2.1 24 j)) (hbb : bb ≤ b2) : Tie (kpM n + 1) b2 u9 v9 := by
  obtain ⟨hn, hc, hk, hok, hsI, a1, a2, hrg, hB, hS⟩ := h
  obtain ⟨s1, s2, s3, s4, s5, s6⟩ := hs
  obtain ⟨p1, p2, p3, p4, p5⟩ := hp
  have hlt := kpM_lt hn
  have hro := rotS_ok (n := n) hok
  refine ⟨by omega, s1.symm, p1.symm, by rw [s3]; exact hro, sl0 s2, e1, e2, hr, hb, fun i hi => ?_⟩
  unfold tieS
  rw [s3]
  by_cases e : i = kpM n
  · subst e
    exact ⟨fun k hk9 => by rw [s4 k hk9, p3 k hk9, a1], fun j hj => by rw [s5 j hj, p5 j hj, a2], rgM_cg s4 hrg, fun j hj => by rw [s5 j hj]; exact dB_mono (hB j hj) hbb⟩
  · have hi2 : i < kpM n := by omega
    have hd : i + kpD n < n := by
      unfold kpM at hi2
      unfold kpD
      by_cases q : n = 4
      · rw [if_pos q] at hi2 ⊢; omega
      · rw [if_neg q] at hi2 ⊢; omega
    have hc1 := hro.1 i (by omega)
    have hne : rotS n u.2.2.2.2.2.2 i ≠ rotS n u.2.2.2.2.2.2 (kpM n) := fun q => e (hro.2 i (by omega) (kpM n) hlt q)
    obtain ⟨w1, w2⟩ := s6 _ hc1.1 hc1.2 hne
    rw [w1, w2, rotS_lt hi2 hn]
    obtain ⟨g1, g2, g3, g4⟩ := hS (i + kpD n) hd
    exact ⟨fun k hk9 => by rw [g1 k hk9, p2 i hi2 k hk9], fun j hj => by rw [g2 j hj, p4 i hi2 j hj], g3, fun j hj => dB_mono (g4 j hj) hbb⟩
/-- the reference with the class's settings and relaxed heads in its own rows -/
def ms1 (u : CS) (v : MS) : MS := (va_up v.1 1 (nw u), va_up v.2.1 2 (u.2.1 24), v.2.2)
theorem tie_un {n bb : Nat} {u u9 : CS} {v v9 : MS} (h : Tie n bb u v) (hn0 : n ≠ 0) (c1 : u9.2.2.2.1 = nI (n - 1)) (c2 : u9.2.2.2.2.1 = nI 0) (c3 : u9.2.2.2.2.2.2 = u.2.2.2.2.2.2) (c4 : ∀ k, k < 72 → nw u9 k = nwB u (u.2.2.2.2.2.2 (n - 1)) k) (c5 : ∀ j, j < 9 → u9.2.1 24 j = u.2.1 (17 + 8 * u.2.2.2.2.2.2 (n - 1) + 7) j) (c6 : ∀ c, 1 ≤ c → c < 5 → nwB u9 c = nwB u c ∧ u9.2.1 (17 + 8 * c + 7) = u.2.1 (17 + 8 * c + 7))
    (m1 : v9.2.2.2.1 = nI (n - 1)) (m2 : v9.1 3 = v.1 3) (m3 : v9.2.1 4 = v.2.1 4) (m4 : ∀ j, j < 72 → v9.1 1 j = v.1 3 (72 * (n - 1) + j)) (m5 : ∀ j, j < 9 → v9.2.1 2 j = v.2.1 4 (9 * (n - 1) + j)) : Tie (n - 1) bb u9 (ms1 u9 v9) ∧ (∀ k, k < 72 → v9.1 1 k = nw u9 k) ∧ ∀ j, j < 9 → v9.2.1 2 j = u9.2.1 24 j := by
  obtain ⟨hn, hc, hk, hok, hsI, a1, a2, hrg, hB, hS⟩ := h
  obtain ⟨g1, g2, g3, g4⟩ := hS (n - 1) (by omega)
  refine ⟨⟨by omega, c1.symm, m1.symm, by rw [c3]; exact hok, sl0 c2, rfl, rfl, rgM_cg c4 g3, fun j hj => by rw [c5 j hj]; exact g4 j hj, fun i hi => ?_⟩, fun k hk9 => by rw [m4 k hk9, c4 k hk9, g1 k hk9], fun j hj => by rw [m5 j hj, c5 j hj, g2 j hj]⟩
  unfold tieS
  have hb := hok.1 i (by omega)
  obtain ⟨w1, w2⟩ := c6 _ hb.1 hb.2
  rw [c3, w1, w2]
  obtain ⟨b1, b2, b3, b4⟩ := hS i (by omega)
  refine ⟨fun k hk9 => ?_, fun j hj => ?_, b3, b4⟩
  · rw [b1 k hk9]
    show v.1 3 _ = va_up v9.1 1 (nw u9) 3 _
    rw [va_up_n (by decide), m2]
  · rw [b2 j hj]
    show v.2.1 4 _ = va_up v9.2.1 2 (u9.2.1 24) 4 _
    rw [va_up_n (by decide), m3]
theorem ms1_w {dd : va_G} {cy : Nat → ClassId} {am : Nat → Nat} {X : va_W} {H : Heap} {A : Nat → Prop} {u : CS} {v : MS} (h1 : ∀ k, k < 72 → v.1 1 k = nw u k) (h2 : ∀ j, j < 9 → v.2.1 2 j = u.2.1 24 j) (hP : va_P dd vwCl (wM cy am v ++ X) H) (hD : va_D A (wM cy am v ++ X)) : va_P dd vwCl (wM cy am (ms1 u v) ++ X) H ∧ va_D A (wM cy am (ms1 u v) ++ X) := by
  obtain ⟨p1, d1⟩ := va_cgI (wM_1 cy am v X) h1 hP hD
  rw [wM_s1] at p1 d1
  obtain ⟨p2, d2⟩ := va_cgD (wM_2 cy am (va_up v.1 1 (nw u), v.2) X) h2 p1 d1
  rw [wM_s2] at p2 d2
  exact ⟨p2, d2⟩
/-- settings within their ranges -/
theorem rgM_u {f : Nat → Int32} {k : Nat} {v : Int32} (h : rgM f) (h1 : k < 24 → 0 ≤ v.toInt ∧ v.toInt ≤ 2) (h2 : 24 ≤ k → 0 ≤ v.toInt ∧ v.toInt ≤ 1000) : rgM (upd f k v) := by
  refine ⟨fun j hj => ?_, fun j a b => ?_⟩
  · by_cases e : j = k
    · subst e; rw [pk_us]; exact h1 hj
    · rw [pk_un e]; exact h.1 j hj
  · by_cases e : j = k
    · subst e; rw [pk_us]; exact h2 a
    · rw [pk_un e]; exact h.2 j a b
theorem inR_rg {v : Int32} {n : Nat} (hn : n < 2 ^ 31) (h : inR v (nI 0) (nI n) = true) : 0 ≤ v.toInt ∧ v.toInt ≤ n := by
  obtain ⟨c, hc, e⟩ := inR_nat hn h
  rw [e, nI_toInt (by omega)]
  omega
theorem inR_ix {v : Int32} {n : Nat} (hn : n < 2 ^ 31) (h : inR v (nI 0) (nI n) = true) : v.toNatClampNeg ≤ n := by
  obtain ⟨c, hc, e⟩ := inR_nat hn h
  rw [e, nI_clamp (by omega)]
  omega
theorem th2 {a b : Bool} (h : (if a then (if b then 0 else 2) else 1) = 0) : a = true ∧ b = true := by
  cases a <;> cases b <;> simp_all
theorem th1 {a : Bool} (h : (if a then 0 else 1) = 0) : a = true := by
  cases a <;> simp_all
theorem th0 {a : Bool} (h : (if a then 1 else 0) = 0) : a = false := by
  cases a <;> simp_all
theorem nI_z {t : Nat} (h : t ≤ 3) (e : nI t = 0) : t = 0 := (nI_eq (b := 0) (by omega) (by decide)).mp e
theorem lkT_le (t : Bool) (p : Int32) (b : Bool) : lkT t p b ≤ 3 := by
  unfold lkT
  cases t <;> cases (inR p (nI 0) (nI 1)) <;> cases b <;> decide
/-- at the start -/
theorem nw_cs0 : nw cs0 = iMj 36 := by
  funext k
  unfold nw nwB iMj
  by_cases h1 : k < 24
  · rw [if_pos h1, if_pos (by omega), if_pos h1]
    show fC 24 (nI 1) k = nI 1
    unfold fC; rw [if_pos h1]
  · rw [if_neg h1]
    by_cases h2 : k < 36
    · rw [if_pos h2, if_pos h2, if_neg h1]
      show fC 12 (nI 100) (k - 24) = nI 100
      unfold fC; rw [if_pos (by omega)]
    · rw [if_neg h2, if_neg h2]
      by_cases h3 : k < 45
      · rw [if_pos h3]; rfl
      · rw [if_neg h3]
        by_cases h4 : k < 54
        · rw [if_pos h4]; rfl
        · rw [if_neg h4]
          by_cases h5 : k < 63
          · rw [if_pos h5]; rfl
          · rw [if_neg h5]; rfl
theorem rgM_0 : rgM (iMj 36) := by
  have e1 : (nI 1).toInt = 1 := nI_toInt (by decide)
  have e2 : (nI 100).toInt = 100 := nI_toInt (by decide)
  have e3 : (0 : Int32).toInt = 0 := by decide
  refine ⟨fun k hk => ?_, fun k a b => ?_⟩
  · unfold iMj; rw [if_pos (by omega), if_pos hk, e1]; omega
  · unfold iMj
    by_cases h : k < 36
    · rw [if_pos h, if_neg (by omega), e2]; omega
    · rw [if_neg h, e3]; omega
theorem tie_0 {v : MS} (h1 : v.1 1 = iMj 36) (h2 : v.2.1 2 = (fun _ => 0)) (h3 : v.2.2.2.1 = nI 0) : Tie 0 1000 cs0 v := by
  refine ⟨by decide, rfl, h3.symm, ⟨fun j hj => ?_, fun i hi j hj e => ?_⟩, sl0 rfl, by rw [h1, nw_cs0], h2, by rw [nw_cs0]; exact rgM_0, fun j _ => dB_0 1000, fun i hi => absurd hi (Nat.not_lt_zero i)⟩
  · show 1 ≤ j + 1 ∧ j + 1 < 5; omega
  · have e9 : i + 1 = j + 1 := e
    omega
/-- the switch's number -/
theorem and31 (x : Int32) : ∃ k, k < 32 ∧ x &&& nI 31 = nI k := by
  refine ⟨(x &&& nI 31).toBitVec.toNat, ?_, ?_⟩
  · have h : (x &&& nI 31).toBitVec = x.toBitVec &&& 31#32 := rfl
    rw [h, BitVec.toNat_and]
    exact Nat.lt_of_le_of_lt Nat.and_le_right (by decide)
  · apply Int32.toBitVec.inj
    show _ = BitVec.ofNat 32 _
    rw [BitVec.ofNat_toNat, BitVec.setWidth_eq]
theorem lenC {i L : Nat} (hi : i ≤ 4096) (hL : L ≤ 2048) (h : ¬ (nI L - nI 4 < nI i)) : i + 4 ≤ L := by
  rw [Int32.lt_iff_toInt_lt, pk_sub_toInt (by omega) (by omega), nI_toInt (by omega)] at h
  omega

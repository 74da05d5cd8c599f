/-! what holds beside lI; the words of isSame -/
/-- u 1 races at most j, one at least in a race; sailors 0 to 9 wet; points -/
def sX (j n : Nat) (F : Nat → Nat → Int32) (u : Nat → Int32) : Prop := (∃ r, r ≤ j ∧ u 1 = nI r ∧ (u 2 = 1 → 1 ≤ r)) ∧ sWt F n ∧ ∀ b, b < n → ∃ p, p ≤ 8 * j ∧ F b 3 = nI p
theorem sWt.of {F G : Nat → Nat → Int32} {n : Nat} (h : sWt F n) (hp : pF F G n) : sWt G n := fun b hb => by
  obtain ⟨q, q1, q2⟩ := h b hb
  exact ⟨q, q1, by rw [← (hp b hb).1 4 (by omega)]; exact q2⟩
theorem pBs.of {F G : Nat → Nat → Int32} {n : Nat} (h : pBs F n) (hp : pF F G n) : pBs G n := fun b hb => (h b hb).keep ((hp b hb).1 0 (by omega)).symm ((hp b hb).1 1 (by omega)).symm ((hp b hb).1 2 (by omega)).symm
theorem pP.of {F G : Nat → Nat → Int32} {n g : Nat} (h : pP F n g) (hp : pF F G n) : pP G n g := fun b hb => by
  obtain ⟨q, q1, q2⟩ := h b hb
  exact ⟨q, q1, by rw [← (hp b hb).1 5 (by omega)]; exact q2⟩
def sSail (G : Nat → Nat → Int32) (nu : Nat → Int32) (b : Nat) : Int32 := if nu 2 = 1 then (if G b 9 = 1 then 1 else 0) else 0
def sLy (r : Nat → Int32) : Int32 := if r 9 = 3 then 0 else r 8
theorem s_slA {G : Nat → Nat → Int32} {nu : Nat → Int32} {b : Nat} (h : nu 2 = 1) (c : G b 9 = 1) : sSail G nu b = 1 := by unfold sSail; rw [if_pos h, if_pos c]
theorem s_slB {G : Nat → Nat → Int32} {nu : Nat → Int32} {b : Nat} (h : nu 2 = 1) (c : ¬ G b 9 = 1) : sSail G nu b = 0 := by unfold sSail; rw [if_pos h, if_neg c]
theorem s_slC {G : Nat → Nat → Int32} {nu : Nat → Int32} {b : Nat} (h : ¬ nu 2 = 1) : sSail G nu b = 0 := if_neg h
theorem s_sum0 {f : Nat → Int32} (h : ∀ b, f b = 0) : ∀ {n : Nat}, q_sum f n = 0
  | 0 => rfl
  | n + 1 => by rw [q_sum, s_sum0 h, h n]; rfl
theorem s_isin {v : Int32} (h1 : ¬ v = 1) (h2 : ¬ v = 2) : bIsIn v 1 2 = 0 := by
  unfold bIsIn
  by_cases a : v < 1
  · rw [if_pos a]
  · rw [if_neg a, if_pos]
    rw [Int32.lt_iff_toInt_lt, show (1 : Int32).toInt = 1 from by decide] at a
    rw [Int32.lt_iff_toInt_lt, show (2 : Int32).toInt = 2 from by decide]
    have e1 : ¬ v.toInt = 1 := fun e => h1 (Int32.toInt_inj.mp (e.trans (by decide)))
    have e2 : ¬ v.toInt = 2 := fun e => h2 (Int32.toInt_inj.mp (e.trans (by decide)))
    omega
section AH
variable {G : Nat → Nat → Int32} {b j : Nat}
theorem s_ahA (h1 : ¬ G b 9 = 1) (h2 : ¬ G b 9 = 2) : rAhd G (b + 1) = rAhd G b := by rw [rAhd, if_pos (s_isin h1 h2)]
theorem s_ahB (h : G b 9 = 1 ∨ G b 9 = 2) (hn : rAhd G b = none) : rAhd G (b + 1) = some b := by
  rw [rAhd, hn, if_neg (by rcases h with e | e <;> rw [e] <;> decide)]
theorem s_ahC (h : G b 9 = 1 ∨ G b 9 = 2) (hj : rAhd G b = some j) (c : G b 5 ≤ G j 5) : rAhd G (b + 1) = some j := by
  rw [rAhd, hj, if_neg (by rcases h with e | e <;> rw [e] <;> decide)]
  exact if_pos c
theorem s_ahD (h : G b 9 = 1 ∨ G b 9 = 2) (hj : rAhd G b = some j) (c : ¬ G b 5 ≤ G j 5) : rAhd G (b + 1) = some b := by
  rw [rAhd, hj, if_neg (by rcases h with e | e <;> rw [e] <;> decide)]
  exact if_neg c
theorem s_ch0 (hn : rChm G b = none) : rChm G (b + 1) = some b := by rw [rChm, hn]
theorem s_10 {p q : Nat} (hp : p ≤ 8000) (hq : q ≤ 9) : ((10 : Int32) * nI p - nI q).toInt = 10 * (p : Int) - q := by
  have e32 : (2 ^ 32 : Nat) = 4294967296 := by decide
  rw [Int32.toInt_sub, Int32.toInt_mul, nI_toInt (by omega), nI_toInt (by omega), show (10 : Int32).toInt = 10 from by decide, e32]
  simp only [Int.bmod]
  split <;> split <;> omega
theorem s_ch1 {p q p2 q2 : Nat} (hj : rChm G b = some j) (h1 : G b 3 = nI p) (h2 : G b 4 = nI q) (h3 : G j 3 = nI p2) (h4 : G j 4 = nI q2) (hp : p ≤ 8000) (hq : q ≤ 9) (hp2 : p2 ≤ 8000) (hq2 : q2 ≤ 9) :
    rChm G (b + 1) = if (10 : Int32) * G b 3 - G b 4 ≤ 10 * G j 3 - G j 4 then some j else some b := by
  have key : ((10 : Int32) * G b 3 - G b 4 ≤ 10 * G j 3 - G j 4) ↔ 10 * (p : Int) - q ≤ 10 * (p2 : Int) - q2 := by
    rw [h1, h2, h3, h4, Int32.le_iff_toInt_le, s_10 hp hq, s_10 hp2 hq2]
  rw [rChm, hj]
  show (if G j 3 < G b 3 then some b else if G b 3 = G j 3 then (if G j 4 ≤ G b 4 then some j else some b) else some j) = _
  have k1 : G j 3 < G b 3 ↔ p2 < p := by rw [h1, h3]; exact nI_ltI (by omega) (by omega)
  have k2 : G b 3 = G j 3 ↔ p = p2 := by rw [h1, h3]; exact nI_eq (by omega) (by omega)
  have k3 : G j 4 ≤ G b 4 ↔ q2 ≤ q := by rw [h2, h4]; exact nI_leI (by omega) (by omega)
  by_cases c1 : p2 < p
  · rw [if_pos (k1.mpr c1), if_neg (fun h => by have := key.mp h; omega)]
  · rw [if_neg (fun h => c1 (k1.mp h))]
    by_cases c2 : p = p2
    · rw [if_pos (k2.mpr c2)]
      by_cases c3 : q2 ≤ q
      · rw [if_pos (k3.mpr c3), if_pos (key.mpr (by omega))]
      · rw [if_neg (fun h => c3 (k3.mp h)), if_neg (fun h => by have := key.mp h; omega)]
    · rw [if_neg (fun h => c2 (k2.mp h)), if_pos (key.mpr (by omega))]
end AH
/-- a number is like itself -/
theorem s_dcmp0 : Op.cmpValue (FP.dcmp FP.dconst0 FP.dconst0) CmpOp.l = 0 := by decide +kernel
set_option maxRecDepth 100000 in
theorem s_dcmp_ok : ∀ m, m < 73 → ∀ n, n < 9 → n ≠ 0 → Op.cmpValue (FP.dcmp (FP.ddiv (FP.i2d (nI m)) (FP.i2d (nI n))) (FP.ddiv (FP.i2d (nI m)) (FP.i2d (nI n)))) CmpOp.l = 0 := by decide +kernel
theorem s_dcmp {F : Nat → Nat → Int32} {n : Nat} {x : Int32} (hn : n ≤ 8) (h0 : ¬ nI n = 0) (hl : ∀ b, b < n → ∃ m, m ≤ 9 ∧ F b 2 = nI m) (e : x = q_sum (dCol F 2) n) : Op.cmpValue (FP.dcmp (qMean (q_sum (dCol F 2) n) n) (FP.ddiv (FP.i2d x) (FP.i2d (nI n)))) CmpOp.l = 0 := by
  subst e
  obtain ⟨m, h1, h2⟩ := q_sumbn (f := dCol F 2) (c := 9) (N := n) hl
  unfold qMean
  rw [if_neg h0, h2]
  exact s_dcmp_ok m (by omega) n (by omega) (fun e => h0 (by rw [e]; rfl))
theorem s_dcmpN {x : Int32} {n : Nat} (h0 : nI n = 0) : Op.cmpValue (FP.dcmp (qMean x n) FP.dconst0) CmpOp.l = 0 := by
  unfold qMean
  rw [if_pos h0]
  exact s_dcmp0
theorem q_gno2 {C : Nat → (Nat → Int32) → Nat × va_E} {n i : Nat} {ad : Nat → Nat} {F : Nat → Nat → Int32} {r : Nat → Int32} (X t : va_W) (hi : i < n) (e : F i = r) : (X ++ (t ++ q_gp C (List.range n) ad F)).Perm (C (ad i) r :: (X ++ (t ++ q_gp C ((List.range n).erase i) ad F))) := by
  have h := q_gno (C := C) (ad := ad) (X ++ t) hi e
  simpa [List.append_assoc] using h
theorem q_gns2 {C : Nat → (Nat → Int32) → Nat × va_E} {n i : Nat} {ad : Nat → Nat} {F F' : Nat → Nat → Int32} {r : Nat → Int32} (X t : va_W) (hi : i < n) (e : va_up F i r = F') : (C (ad i) r :: (X ++ (t ++ q_gp C ((List.range n).erase i) ad F))).Perm (X ++ (t ++ q_gp C (List.range n) ad F')) := by
  have h := q_gns (C := C) (ad := ad) (X ++ t) hi e
  simpa [List.append_assoc] using h

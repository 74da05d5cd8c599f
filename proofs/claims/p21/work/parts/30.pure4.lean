/-- a boat as the document has it: hull 1 to 9, rig 0 to 2, lead 0 to 9 -/
def pB (r : Nat → Int32) : Prop := (∃ h, 1 ≤ h ∧ h < 10 ∧ r 0 = nI h) ∧ (∃ g, g < 3 ∧ r 1 = nI g) ∧ (∃ z, z < 10 ∧ r 2 = nI z)
def pRow (h g z : Nat) : Nat → Int32 := fun k => if k = 0 then nI h else if k = 1 then nI g else nI z
def pSpOk (h g z w : Nat) : Bool := decide (h = 0) || (decide (¬ bSpeed (pRow h g z) (nI w) < 0) && decide (bSpeed (pRow h g z) (nI w) ≤ 20))
theorem p_speed_b : ((List.range 10).all fun h => (List.range 3).all fun g => (List.range 10).all fun z => (List.range 10).all fun w => pSpOk h g z w) = true := by decide +kernel
theorem p_speed_all (h : Nat) (hh : h < 10) (g : Nat) (hg : g < 3) (z : Nat) (hz : z < 10) (w : Nat) (hw : w < 10) (h1 : 1 ≤ h) : ¬ bSpeed (pRow h g z) (nI w) < 0 ∧ bSpeed (pRow h g z) (nI w) ≤ 20 := by
  have q := List.all_eq_true.mp (List.all_eq_true.mp (List.all_eq_true.mp (List.all_eq_true.mp p_speed_b h (List.mem_range.mpr hh)) g (List.mem_range.mpr hg)) z (List.mem_range.mpr hz)) w (List.mem_range.mpr hw)
  unfold pSpOk at q
  rw [decide_eq_false (show ¬ h = 0 by omega), Bool.false_or, Bool.and_eq_true, decide_eq_true_eq, decide_eq_true_eq] at q
  exact q
theorem p_div_all : ∀ h, h < 10 → ∀ z, z < 10 → 1 ≤ h → (0 : Int32) < 2 + nI h + nI z / 2 := by decide +kernel
theorem pB.speed {r : Nat → Int32} (h : pB r) {w : Nat} (hw : w < 10) : ∃ q, q ≤ 20 ∧ bSpeed r (nI w) = nI q := by
  obtain ⟨⟨a, a1, a2, a3⟩, ⟨g, g2, g3⟩, ⟨z, z2, z3⟩⟩ := h
  have e : bSpeed r (nI w) = bSpeed (pRow a g z) (nI w) := by simp only [bSpeed, a3, g3, z3, pRow]; rfl
  obtain ⟨h1, h2⟩ := p_speed_all a a2 g g2 z z2 w hw a1
  rw [e]
  exact nI_of2 (M := 20) (n := 20) (by decide) h1 h2
theorem pB.div {r : Nat → Int32} (h : pB r) : 0 < 2 + r 0 + r 2 / 2 := by
  obtain ⟨⟨a, a1, a2, a3⟩, -, ⟨z, z2, z3⟩⟩ := h
  rw [a3, z3]
  exact p_div_all a a2 z z2 a1
theorem pB.divz {r : Nat → Int32} (h : pB r) {z : Nat} (hz : z ≤ 9) : 0 < 2 + r 0 + nI z / 2 := by
  obtain ⟨⟨a, a1, a2, a3⟩, -, -⟩ := h
  rw [a3]
  exact p_div_all a a2 z (by omega) a1
theorem pB.keep {f g : Nat → Int32} (h : pB f) (h0 : g 0 = f 0) (h1 : g 1 = f 1) (h2 : g 2 = f 2) : pB g := by
  unfold pB
  rw [h0, h1, h2]
  exact h
def pBs (F : Nat → Nat → Int32) (n : Nat) : Prop := ∀ b, b < n → pB (F b)
theorem pBs.hz {F : Nat → Nat → Int32} {n : Nat} (h : pBs F n) : mHz F n := fun b hb => (h b hb).div
theorem pBs.keep {F G : Nat → Nat → Int32} {n : Nat} (h : pBs F n) (hk : mKeep F G) : pBs G n := fun b hb => (h b hb).keep (hk b).1 (hk b).2.1 (hk b).2.2
/-- places: what so many minutes of a race can give -/
def pP (F : Nat → Nat → Int32) (n g : Nat) : Prop := ∀ b, b < n → ∃ p, p ≤ 20 * g ∧ F b 5 = nI p
theorem pP.more {F : Nat → Nat → Int32} {n g k : Nat} (h : pP F n g) (hk : g ≤ k) : pP F n k := fun b hb => by
  obtain ⟨p, h1, h2⟩ := h b hb
  exact ⟨p, by omega, h2⟩
theorem p_sail5 (r : Nat → Int32) (w : Int32) : bSail r w 5 = r 5 ∨ bSail r w 5 = r 5 + bSpeed r w := by
  unfold bSail
  rw [p_heel10, p_speed10]
  split
  · split
    · split
      · exact Or.inr (by simp [upd])
      · unfold bFall
        split
        · exact Or.inl (by simp [upd])
        · exact Or.inl (by simp [upd])
    · exact Or.inl (by simp [upd])
  · exact Or.inl (by simp [upd])
theorem pP.sail {F : Nat → Nat → Int32} {n g w : Nat} (h : pP F n g) (hB : pBs F n) (hw : w < 10) : pP (dSail F (nI w)) n (g + 1) := fun b hb => by
  obtain ⟨p, h1, h2⟩ := h b hb
  obtain ⟨q, q1, q2⟩ := (hB b hb).speed hw
  rcases p_sail5 (F b) (nI w) with e | e
  · exact ⟨p, by omega, by show bSail (F b) (nI w) 5 = _; rw [e, h2]⟩
  · exact ⟨p + q, by omega, by show bSail (F b) (nI w) 5 = _; rw [e, h2, q2, nI_add]⟩
/-- counting and the digest -/
theorem p_count {F G : Nat → Nat → Int32} {u nu wf wg : Nat → Int32} {n k : Nat} (h : pF F G n) (hu : pU u nu) (hw : ∀ j, j < 10 → wf j = wg j) {mk : Nat} (o : Nat) : qCnt (u 0) (wf (mk % 10)) (nI n) (nI k) (u 1) (if u 2 = 0 then 0 else 1) (if u 2 = 0 then 0 else q_sum (dSt F 1) n) (q_sum (dCol F 3) n) (q_sum (dCol F 4) n) o = qCnt (nu 0) (wg (mk % 10)) (nI n) (nI k) (nu 1) (nu 2) (if bOn nu = 0 then 0 else q_sum (dSt G 1) n) (q_sum (dCol G 3) n) (q_sum (dCol G 4) n) o := by
  have e2 : (if u 2 = 0 then (0 : Int32) else 1) = nu 2 := by
    rw [← hu.2.2.1]
    rcases hu.2.2.2.2 with q | q <;> simp [q]
  have e3 : (if u 2 = 0 then (0 : Int32) else q_sum (dSt F 1) n) = (if bOn nu = 0 then 0 else q_sum (dSt G 1) n) := by
    rw [h.st 1]
    by_cases c : u 2 = 0
    · rw [if_pos c, if_pos (hu.on.mpr c)]
    · rw [if_neg c, if_neg (fun q => c (hu.on.mp q))]
  rw [e2, e3, h.col (by omega), h.col (by omega), hu.1, hu.2.1, hw _ (Nat.mod_lt _ (by omega))]

theorem p_mF5 (F : Nat → Nat → Int32) (u : Nat → Int32) (w : Int32) (ju : Nat → Int32) (k : Nat) (len : Int32) (n b : Nat) : mF F u w ju k len n b 5 = if u 2 = 0 then F b 5 else dSail F w b 5 := by
  have e3 : ∀ (F' : Nat → Nat → Int32) (u' : Nat → Int32), mF3 F' u' n b 5 = F' b 5 := fun F' u' => by
    have e : dEnd F' n b 5 = F' b 5 := by
      unfold dEnd
      split
      · simp [upd]
      · rfl
    unfold mF3
    split
    · rfl
    · split
      · exact e
      · split
        · exact e
        · rfl
  have e2 : ∀ (F' : Nat → Nat → Int32) (u' : Nat → Int32), mF2 F' u' b 5 = F' b 5 := fun F' u' => by
    have e : ∀ r : Nat → Int32, bDry r 5 = r 5 := fun r => by simp [bDry, upd]
    unfold mF2
    split
    · unfold dDry
      split
      · exact e _
      · split
        · exact e _
        · rfl
    · rfl
  unfold mF
  rw [e3, e2]
  unfold mF1
  by_cases c : u 2 = 0
  · rw [if_pos c, if_pos c]
  · rw [if_neg c, if_neg c]
    have ein : ∀ (r : Nat → Int32) (t : Int32), bIn r len t 5 = r 5 := fun r t => by
      unfold bIn
      split
      · split
        · simp [upd]
        · rfl
      · rfl
    unfold dRace dInF
    rw [ein]
    exact (dFoulR_cols (dSail F w) ju k b).2
theorem pP.minute {F : Nat → Nat → Int32} {n g w : Nat} (h : pP F n g) (hB : pBs F n) (hw : w < 10) (u ju : Nat → Int32) (k : Nat) (len : Int32) : pP (mF F u (nI w) ju k len n) n (g + 1) := fun b hb => by
  rw [p_mF5]
  by_cases c : u 2 = 0
  · rw [if_pos c]
    obtain ⟨p, h1, h2⟩ := h b hb
    exact ⟨p, by omega, h2⟩
  · rw [if_neg c]
    exact h.sail hB hw b hb
/-- field 10 stays 0 or 1 -/
def p10 (F : Nat → Nat → Int32) (n : Nat) : Prop := ∀ b, b < n → F b 10 = 0 ∨ F b 10 = 1
theorem p_sail10 (r : Nat → Int32) (w : Int32) : bSail r w 10 = 0 ∨ bSail r w 10 = 1 := by
  unfold bSail
  split
  · split
    · split
      · exact Or.inr (by simp [upd])
      · unfold bFall
        split
        · exact Or.inl (by simp [upd])
        · exact Or.inl (by simp [upd])
    · exact Or.inl (by simp [upd])
  · exact Or.inl (by simp [upd])
theorem p_mF10 (F : Nat → Nat → Int32) (u : Nat → Int32) (w : Int32) (ju : Nat → Int32) (k : Nat) (len : Int32) (n b : Nat) : mF F u w ju k len n b 10 = if u 2 = 0 then F b 10 else dSail F w b 10 := by
  have e3 : ∀ (F' : Nat → Nat → Int32) (u' : Nat → Int32), mF3 F' u' n b 10 = F' b 10 := fun F' u' => by
    have e : dEnd F' n b 10 = F' b 10 := by
      unfold dEnd
      split
      · simp [upd]
      · rfl
    unfold mF3
    split
    · rfl
    · split
      · exact e
      · split
        · exact e
        · rfl
  have e2 : ∀ (F' : Nat → Nat → Int32) (u' : Nat → Int32), mF2 F' u' b 10 = F' b 10 := fun F' u' => by
    have e : ∀ r : Nat → Int32, bDry r 10 = r 10 := fun r => by simp [bDry, upd]
    unfold mF2
    split
    · unfold dDry
      split
      · exact e _
      · split
        · exact e _
        · rfl
    · rfl
  unfold mF
  rw [e3, e2]
  unfold mF1
  by_cases c : u 2 = 0
  · rw [if_pos c, if_pos c]
  · rw [if_neg c, if_neg c]
    have ein : ∀ (r : Nat → Int32) (t : Int32), bIn r len t 10 = r 10 := fun r t => by
      unfold bIn
      split
      · split
        · simp [upd]
        · rfl
      · rfl
    unfold dRace dInF
    rw [ein]
    exact (dFoulR_cols (dSail F w) ju k b).1
theorem p10.minute {F : Nat → Nat → Int32} {n : Nat} (h : p10 F n) (u : Nat → Int32) (w : Int32) (ju : Nat → Int32) (k : Nat) (len : Int32) : p10 (mF F u w ju k len n) n := fun b hb => by
  rw [p_mF10]
  by_cases c : u 2 = 0
  · rw [if_pos c]; exact h b hb
  · rw [if_neg c]; exact p_sail10 _ _
/-- a new boat -/
theorem pE.new (hull rig : Int32) : pE (bNew hull rig) (rNew hull rig) := by
  refine ⟨fun k hk => ?_, by simp [bNew, rNew, upd], fun _ => by simp [bNew, upd], fun _ => by simp [bNew, rNew, upd], Or.inl (by simp [bNew, upd])⟩
  rcases (show k = 0 ∨ k = 1 ∨ k = 2 ∨ k = 3 ∨ k = 4 ∨ k = 5 ∨ k = 6 ∨ k = 7 by omega) with rfl | rfl | rfl | rfl | rfl | rfl | rfl | rfl <;> simp [bNew, rNew, upd]

theorem p_sail_id (r : Nat → Int32) (w : Int32) (h : ¬ r 9 = 1) : rSail r w = r ∧ rWent r w = 0 := by
  unfold rSail rWent
  rw [if_neg h, if_neg h]
  exact ⟨rfl, rfl⟩
/-- a race with one boat in it: the others have state 0 -/
theorem p_lone_race (G : Nat → Nat → Int32) (w : Int32) (ey : Nat → Int32) (k : Nat) (len t : Int32) (n bt : Nat) (hb : bt < n) (ho : ∀ b, b < n → ¬ b = bt → G b 9 = 0) :
    (∀ b, b < n → ¬ b = bt → rRace G w ey k len t n b 9 = 0) ∧ rRace G w ey k len t n bt = bIn (rSail (G bt) w) len t := by
  have n0 : ¬ (0 : Int32) = 1 := by decide
  have h1 : ∀ b, b < n → ¬ b = bt → rG1 G w n b = G b := fun b hb2 hne => by
    unfold rG1
    rw [q_upto_lt _ _ hb2]
    exact (p_sail_id _ w (by rw [ho b hb2 hne]; exact n0)).1
  have hv : ∀ b, b < n → ¬ b = bt → rWv G w n b = 0 := fun b hb2 hne => by
    unfold rWv
    rw [q_upto_lt _ _ hb2]
    exact (p_sail_id _ w (by rw [ho b hb2 hne]; exact n0)).2
  have h1t : rG1 G w n bt = rSail (G bt) w := by
    unfold rG1
    rw [q_upto_lt _ _ hb]
    rfl
  have h2 : ∀ b, b < n → ¬ b = bt → rG2 G w ey k n b = G b := fun b hb2 hne => by
    unfold rG2
    rw [q_upto_lt _ _ hb2]
    unfold rFouls
    rw [if_pos (hv b hb2 hne)]
    exact h1 b hb2 hne
  have h2t : rG2 G w ey k n bt = rSail (G bt) w := by
    unfold rG2
    rw [q_upto_lt _ _ hb]
    unfold rFouls
    have hf : rFl (fun a => rG1 G w n a 5) (rWv G w n) (rG1 G w n bt 5) bt = 0 := by
      by_cases q : rFl (fun a => rG1 G w n a 5) (rWv G w n) (rG1 G w n bt 5) bt = 0
      · exact q
      · obtain ⟨a, a1, a2, -⟩ := p_fl.mp q
        exact absurd (hv a (by omega) (by omega)) a2
    rw [hf, if_pos rfl, h1t]
    split <;> rfl
  refine ⟨fun b hb2 hne => ?_, ?_⟩
  · unfold rRace
    rw [q_upto_lt _ _ hb2]
    unfold dInF bIn
    rw [h2 b hb2 hne, if_neg (by rw [ho b hb2 hne]; exact n0)]
    exact ho b hb2 hne
  · unfold rRace
    rw [q_upto_lt _ _ hb]
    unfold dInF
    rw [h2t]

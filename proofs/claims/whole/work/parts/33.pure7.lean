/-- alone: what has come in or is out stays as it is, but for field 10 -/
theorem p_al_stay (r wf : Nat → Int32) (mk : Nat) (len : Int32) (z j : Nat) (h : ¬ dAl r wf mk len z j 9 = 1) : dAl r wf mk len z (j + 1) 9 = dAl r wf mk len z j 9 ∧ dAl r wf mk len z (j + 1) 6 = dAl r wf mk len z j 6 := by
  have e : bSail (dAl r wf mk len z j) (wf ((mk + j) % 10)) = upd (dAl r wf mk len z j) 10 0 := by
    unfold bSail
    rw [if_neg h]
  rw [dAl, e]
  unfold bIn
  have e9 : upd (dAl r wf mk len z j) 10 0 9 = dAl r wf mk len z j 9 := by simp [upd]
  rw [e9, if_neg h]
  exact ⟨by simp [upd], by simp [upd]⟩
theorem p_al_end (r wf : Nat → Int32) (mk : Nat) (len : Int32) (z j : Nat) (h : ¬ dAl r wf mk len z j 9 = 1) : ∀ k, (dAl r wf mk len z (j + k) 9 = dAl r wf mk len z j 9) ∧ dAl r wf mk len z (j + k) 6 = dAl r wf mk len z j 6
  | 0 => ⟨rfl, rfl⟩
  | k + 1 => by
    obtain ⟨h1, h2⟩ := p_al_end r wf mk len z j h k
    obtain ⟨h3, h4⟩ := p_al_stay r wf mk len z (j + k) (by rw [h1]; exact h)
    exact ⟨h3.trans h1, h4.trans h2⟩

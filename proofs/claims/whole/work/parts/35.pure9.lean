/-- the lone race, to its end -/
theorem p_lone (r wf wg ey : Nat → Int32) (mk : Nat) (len : Int32) (z k n bt : Nat) (hn : n ≤ 8) (hb : bt < n) (hw : ∀ j, j < 10 → wf j = wg j) (hmk : mk < 2 ^ 30) : ∀ (f j : Nat) (R : (Nat → Nat → Int32) × (Nat → Int32)), j + f = 60 → R.2 0 = nI (mk + j) → R.2 3 = nI j → R.2 2 = 1 → (∀ b, b < n → ¬ b = bt → R.1 b 9 = 0) → pE (dAl r wf mk len z j) (R.1 bt) → dAl r wf mk len z j 9 = 1 →
    (rRun wg ey k len n f R).1 bt 6 = dAl r wf mk len z 60 6
  | 0, j, R, hj, _, _, _, _, hE, _ => by
    have : j = 60 := by omega
    subst this
    exact (hE.1 6 (by omega)).symm
  | f + 1, j, R, hj, h0, h3, h2, ho, hE, h1 => by
    have hon : ¬ bOn R.2 = 0 := by unfold bOn; rw [if_pos h2]; decide
    rw [rRun, if_neg hon]
    have hwj : wAt wg (R.2 0) = wf ((mk + j) % 10) := by rw [wAt_eq h0 (by omega), hw _ (Nat.mod_lt _ (by omega))]
    obtain ⟨l1, l2⟩ := p_lone_race R.1 (wf ((mk + j) % 10)) ey k len (R.2 3 + 1) n bt hb ho
    have eR1 : rA1 R.1 R.2 (wf ((mk + j) % 10)) ey k len n = rRace R.1 (wf ((mk + j) % 10)) ey k len (R.2 3 + 1) n := if_neg hon
    have eU1 : rU1 R.2 = upd R.2 3 (nI (j + 1)) := by unfold rU1; rw [if_neg hon, h3, nI_1]
    have hon1 : ¬ bOn (rU1 R.2) = 0 := by rw [eU1]; unfold bOn; rw [show upd R.2 3 (nI (j + 1)) 2 = R.2 2 from rfl, if_pos h2]; decide
    have hE1 : pE (dAl r wf mk len z (j + 1)) (rRace R.1 (wf ((mk + j) % 10)) ey k len (R.2 3 + 1) n bt) := by
      rw [l2, dAl, h3, nI_1]
      exact ((hE.sail _).1.inn len _).1
    have h9 : dAl r wf mk len z (j + 1) 9 = 1 ∨ ¬ dAl r wf mk len z (j + 1) 9 = 1 := Classical.em _
    -- dry touches those ashore alone
    have d9 : ∀ b, b < n → rA2 (rRace R.1 (wf ((mk + j) % 10)) ey k len (R.2 3 + 1) n) (rU1 R.2) n b 9 = rRace R.1 (wf ((mk + j) % 10)) ey k len (R.2 3 + 1) n b 9 := fun b hb2 => by
      have e : ∀ q : Nat → Int32, bDry q 9 = q 9 := fun q => by simp [bDry, upd]
      unfold rA2
      rw [q_upto_lt _ _ hb2]
      unfold rDryF
      split
      · split
        · exact e _
        · rfl
      · rfl
    have n90 : ¬ rRace R.1 (wf ((mk + j) % 10)) ey k len (R.2 3 + 1) n bt 9 = 0 := by
      rw [l2]
      have hs : ¬ rSail (R.1 bt) (wf ((mk + j) % 10)) 9 = 0 := by
        have e1 : R.1 bt 9 = 1 := by rw [← hE.2.1]; exact h1
        unfold rSail
        rw [if_pos e1]
        split
        · split
          · split
            · simp [upd]
            · simp [rWet, upd, e1]
          · simp [upd, e1]
        · simp [upd, e1]
      unfold bIn
      split
      · split
        · simp [upd]
        · exact hs
      · exact hs
    have dbt : rA2 (rRace R.1 (wf ((mk + j) % 10)) ey k len (R.2 3 + 1) n) (rU1 R.2) n bt = rRace R.1 (wf ((mk + j) % 10)) ey k len (R.2 3 + 1) n bt := by
      unfold rA2
      rw [q_upto_lt _ _ hb]
      unfold rDryF
      split <;> rfl
    obtain ⟨M, hM⟩ : ∃ M, M = rA2 (rRace R.1 (wf ((mk + j) % 10)) ey k len (R.2 3 + 1) n) (rU1 R.2) n := ⟨_, rfl⟩
    rw [← hM] at d9 dbt
    have hS : rS wg ey k len n R = (rA3 M (rU1 R.2) n, rU3 M (rU1 R.2) n) := by
      rw [rS, hwj, rG, rU, eR1, ← hM]
    rw [hS]
    have e6 : M bt 6 = dAl r wf mk len z (j + 1) 6 := by rw [dbt]; exact (hE1.1 6 (by omega)).symm
    have eE : ∀ b, dEnd M n b 6 = M b 6 := fun b => (dEnd_cols M n b).1
    have d01 : ∀ b, dSt M 1 b = 0 ∨ dSt M 1 b = 1 := fun b => by
      unfold dSt
      split
      · exact Or.inr rfl
      · exact Or.inl rfl
    have eB : M bt 9 = dAl r wf mk len z (j + 1) 9 := by rw [dbt]; exact hE1.2.1.symm
    have hoM : ∀ b, b < n → ¬ b = bt → M b 9 = 0 := fun b hb2 hne => by rw [d9 b hb2]; exact l1 b hb2 hne
    have u3 : rU1 R.2 3 = nI (j + 1) := by rw [eU1]; simp [upd]
    rcases h9 with h9 | h9
    · have hs : ¬ q_sum (dSt M 1) n = 0 := fun q => by
        have := q_sum_z d01 hn q bt hb
        unfold dSt at this
        rw [eB, if_pos h9] at this
        exact absurd this (by decide)
      by_cases c : rU1 R.2 3 = 60
      · have : j + 1 = 60 := (nI_eq (b := 60) (by omega) (by omega)).mp (u3.symm.trans c)
        have f0 : f = 0 := by omega
        subst f0
        show rA3 M (rU1 R.2) n bt 6 = _
        unfold rA3
        rw [if_neg hon1, if_neg hs, if_pos c, q_upto_lt _ _ hb, eE, e6, this]
      · have a3 : rA3 M (rU1 R.2) n = M := by unfold rA3; rw [if_neg hon1, if_neg hs, if_neg c]
        have b3 : rU3 M (rU1 R.2) n = rU2 (rU1 R.2) := by unfold rU3; rw [if_neg hon1, if_neg hs, if_neg c]
        rw [a3, b3]
        refine p_lone r wf wg ey mk len z k n bt hn hb hw hmk f (j + 1) _ (by omega) ?_ ?_ ?_ hoM ?_ h9
        · show rU2 (rU1 R.2) 0 = _
          rw [eU1]
          simp only [rU2, upd, if_true, if_false]
          simp only [show ¬ (0 : Nat) = 3 by omega, if_false, h0]
          exact nI_1 _
        · show rU2 (rU1 R.2) 3 = _
          rw [eU1]
          simp [rU2, upd]
        · show rU2 (rU1 R.2) 2 = _
          rw [eU1]
          simp [rU2, upd, h2]
        · show pE _ (M bt)
          rw [dbt]
          exact hE1
    · have hs : q_sum (dSt M 1) n = 0 := by
        have e : q_sum (dSt M 1) n = q_sum (fun _ => 0) n := q_sum_congr fun b hb2 => by
          unfold dSt
          by_cases q : b = bt
          · subst q; rw [eB, if_neg h9]
          · rw [hoM b hb2 q]; rfl
        rw [e]
        have z0 : ∀ m : Nat, q_sum (fun _ => (0 : Int32)) m = 0 := fun m => by
          induction m with
          | zero => rfl
          | succ m ih => rw [q_sum, ih]; rfl
        exact z0 n
      have a3 : rA3 M (rU1 R.2) n = q_upto n (dEnd M n) M := by unfold rA3; rw [if_neg hon1, if_pos hs]
      have b3 : rU3 M (rU1 R.2) n = upd (rU2 (rU1 R.2)) 2 0 := by unfold rU3; rw [if_neg hon1, if_pos hs]
      rw [a3, b3, rRun_stop (by unfold bOn; rw [if_neg (by simp [upd])])]
      show q_upto n (dEnd M n) M bt 6 = _
      rw [q_upto_lt _ _ hb, eE, e6]
      have := (p_al_end r wf mk len z (j + 1) h9 (60 - (j + 1))).2
      rw [show j + 1 + (60 - (j + 1)) = 60 by omega] at this
      exact this.symm

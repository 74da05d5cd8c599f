theorem p_time {F G : Nat → Nat → Int32} {nu wf wg : Nat → Int32} {n k mk : Nat} (h : pF F G n) (hn : n ≤ 8) (hm : nu 0 = nI mk) (hw : ∀ j, j < 10 → wf j = wg j) (hmk : mk < 2 ^ 30) (ey : Nat → Int32) (len : Int32) {bt : Nat} (hb : bt < n) (z : Nat) : dAT (F bt) wf mk len z = rAdT wg ey k len n G nu bt z := by
  have hc : upd (upd (G bt) 4 0) 2 (nI z) = upd (upd (G bt) 2 (nI z)) 4 0 := by
    funext a
    simp only [upd]
    by_cases q : a = 2
    · subst q; simp
    · simp [q]
  have eb : rAdG G n bt z bt = upd (upd (G bt) 2 (nI z)) 4 0 := by
    unfold rAdG
    rw [va_up_self, q_upto_lt _ _ hb]
    unfold rWet0
    rw [if_pos rfl, hc]
  have eo : ∀ b, b < n → ¬ b = bt → rAdG G n bt z b 4 = 9 := fun b hb2 hne => by
    unfold rAdG va_up
    rw [if_neg hne, q_upto_lt _ _ hb2]
    unfold rWet0
    rw [if_neg (fun q => hne ((nI_eq (by omega) (by omega)).mp q))]
    simp [upd]
  have hE : pE (dAl (F bt) wf mk len z 0) (rEnter (rAdG G n bt z bt)) := by
    rw [eb, dAl]
    exact (((h bt hb).upd8 2 (by omega) _).upd8 4 (by omega) _).enter
  unfold dAT rAdT
  refine (p_lone (F bt) wf wg ey mk len z k n bt hn hb hw hmk 60 0 (rAdS G nu n bt z) rfl ?_ ?_ ?_ ?_ ?_ ?_).symm
  · show rBegU nu 0 = _
    simp [rBegU, upd, hm]
  · show rBegU nu 3 = _
    simp [rBegU, upd]; rfl
  · show rBegU nu 2 = 1
    simp [rBegU, upd]
  · intro b hb2 hne
    show q_upto n (rEnters (rAdG G n bt z)) (rAdG G n bt z) b 9 = 0
    rw [q_upto_lt _ _ hb2]
    show rEnter (rAdG G n bt z b) 9 = 0
    unfold rEnter
    rw [eo b hb2 hne]
    simp [upd]
  · show pE _ (q_upto n (rEnters (rAdG G n bt z)) (rAdG G n bt z) bt)
    rw [q_upto_lt _ _ hb]
    exact hE
  · rw [hE.2.1, eb]
    unfold rEnter
    simp [upd]
theorem p_advise {F G : Nat → Nat → Int32} {nu wf wg : Nat → Int32} {n k mk : Nat} (h : pF F G n) (hn : n ≤ 8) (hm : nu 0 = nI mk) (hw : ∀ j, j < 10 → wf j = wg j) (hmk : mk < 2 ^ 30) (ey : Nat → Int32) (len : Int32) {bt : Nat} (hb : bt < n) : (dAdv (dAT (F bt) wf mk len) 10).1 = (qAdv (rAdT wg ey k len n G nu bt) 10).1 := by
  rw [p_adv 10 (Nat.le_refl _) (fun j _ => p_time h hn hm hw hmk ey len hb j)]

theorem p_adv1 (t : Nat → Int32) : ∀ z : Nat, z ≤ 10 → (qAdv t z).1 = -1 ∨ ∃ j, j < z ∧ (qAdv t z).1 = nI j
  | 0, _ => Or.inl rfl
  | z + 1, hz => by
    have ih := p_adv1 t z (by omega)
    have same : (qAdv t z).1 = -1 ∨ ∃ j, j < z + 1 ∧ (qAdv t z).1 = nI j := by
      rcases ih with h | ⟨j, h1, h2⟩
      · exact Or.inl h
      · exact Or.inr ⟨j, by omega, h2⟩
    unfold qAdv
    split
    · exact same
    · split
      · exact Or.inr ⟨z, by omega, rfl⟩
      · split
        · exact Or.inr ⟨z, by omega, rfl⟩
        · exact same
/-- the class's and the reference's way to the best lead -/
theorem p_adv {t v : Nat → Int32} : ∀ z : Nat, z ≤ 10 → (∀ j, j < z → t j = v j) → dAdv t z = qAdv v z
  | 0, _, _ => rfl
  | z + 1, hz, h => by
    have ih := p_adv z (by omega) (fun j hj => h j (by omega))
    unfold dAdv qAdv
    rw [ih, h z (by omega)]
    by_cases c1 : v z = -1
    · rw [if_pos c1, if_pos c1]
    · rw [if_neg c1, if_neg c1]
      have e : ((qAdv v z).1 < 0) ↔ ((qAdv v z).1 = -1) := by
        rcases p_adv1 v z (by omega) with q | ⟨j, q1, q2⟩
        · rw [q]; decide
        · rw [q2]
          exact ⟨fun q => absurd q (nI_pos (by omega)), fun q => absurd q (q_oi_ne (by omega))⟩
      by_cases c2 : (qAdv v z).1 = -1
      · rw [if_pos (e.mpr c2), if_pos c2]
      · rw [if_neg (fun q => c2 (e.mp q)), if_neg c2]
        by_cases c3 : v z < (qAdv v z).2
        · rw [if_neg (Int32.not_le.mpr c3), if_pos c3]
        · rw [if_pos (Int32.not_lt.mp c3), if_neg c3]
/-- the digest of a state that is the same -/
theorem p_digest {F G : Nat → Nat → Int32} {u nu wf wg ju ey : Nat → Int32} {n k : Nat} (h : pF F G n) (hu : pU u nu) (hw : ∀ j, j < 10 → wf j = wg j) (hj : ∀ j, j < k → ju j = ey j) {mk : Nat} {cF cG : Nat → Int32} (hc : ∀ o, o < 9 → cF o = cG o) (d : Int64) :
    qDB (fun b9 k9 => qTold F b9 k9 (wf (mk % 10))) (fun b9 k9 => dAbt F u b9 k9) (qDg ju (qDg wf (qDg cF d 9) 10) k) n = qDB (fun b9 k9 => qTold G b9 k9 (wg (mk % 10))) (fun b9 k9 => rAbt G nu b9 k9) (qDg ey (qDg wg (qDg cG d 9) 10) k) n := by
  rw [qDg_congr hc, qDg_congr hw, qDg_congr hj, hw _ (Nat.mod_lt mk (by omega))]
  exact qDB_congr (fun b hb o ho => h.told hb ho _) (fun b hb o ho => h.about hu hb ho)

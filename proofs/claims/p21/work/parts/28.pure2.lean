theorem rS_goA {wf ey : Nat → Int32} {nj : Nat} {len : Int32} {nb : Nat} {S : (Nat → Nat → Int32) × (Nat → Int32)} (h : rGo S.2 0) : rGo (rS wf ey nj len nb S).2 0 := by
  by_cases c : bOn S.2 = 0
  · refine Or.inl ?_
    show bOn (rU3 _ (rU1 S.2) nb) = 0
    have e : rU1 S.2 = S.2 := if_pos c
    rw [e, rU3, if_pos c]
    have : rU2 S.2 2 = S.2 2 := by simp [rU2, upd]
    unfold bOn at c ⊢
    rw [this]; exact c
  · exact (rS_go c h).less (by omega)
theorem p_it {n : Nat} {wf wg ju ey : Nat → Int32} {k : Nat} (hw : ∀ j, j < 10 → wf j = wg j) (hj : ∀ j, j < k → ju j = ey j) (len : Int32) {S R : (Nat → Nat → Int32) × (Nat → Int32)} (h : pS S R n) (hg : rGo R.2 0) : ∀ j, pS (mIt wf ju k len n S j) (rIt wg ey k len n R j) n ∧ rGo (rIt wg ey k len n R j).2 0
  | 0 => ⟨h, hg⟩
  | j + 1 => by
    obtain ⟨h1, h2⟩ := p_it hw hj len h hg j
    exact ⟨p_mS h1 h2 hw hj len, rS_goA h2⟩
theorem q_sum_add {f g : Nat → Int32} : ∀ {n : Nat}, q_sum (fun k => f k + g k) n = q_sum f n + q_sum g n
  | 0 => by simp [q_sum]
  | n + 1 => by
    simp only [q_sum]
    rw [q_sum_add]
    simp only [Int32.add_assoc]
    congr 1
    rw [← Int32.add_assoc, Int32.add_comm (q_sum g n), Int32.add_assoc]
theorem p_sail2 (r : Nat → Int32) (w : Int32) : (bSail r w 9 = 2) ↔ (r 9 = 2) := by
  unfold bSail
  by_cases c : r 9 = 1
  · rw [if_pos c, c]
    split
    · split
      · simp [upd, c]
      · unfold bFall
        split
        · simp [upd]
        · simp [upd, c]
    · simp [upd, c]
  · rw [if_neg c]
    simp [upd]
theorem p_foul9 (F : Nat → Nat → Int32) (ju : Nat → Int32) (k b : Nat) : dFoul F ju k b 9 = F b 9 := by
  unfold dFoul dFoulR
  split
  · simp [upd]
  · rfl
theorem p_in2 (F : Nat → Nat → Int32) (len t : Int32) (b : Nat) : dSt (dInF F len t) 2 b = dSt F 2 b + dArr F len b := by
  unfold dSt dInF dArr bIn bInR
  by_cases c : F b 9 = 1
  · rw [if_pos c, if_pos c]
    by_cases cl : len ≤ F b 5
    · rw [if_pos cl, if_pos cl]
      simp [upd, c]
    · rw [if_neg cl, if_neg cl]
      simp [c]
  · rw [if_neg c, if_neg c]
    simp
theorem p_arr (F : Nat → Nat → Int32) (u : Nat → Int32) (w : Int32) (ju : Nat → Int32) (k : Nat) (len : Int32) (n : Nat) : q_sum (dSt (mF F u w ju k len n) 2) n = q_sum (dSt F 2) n + mR1 F u w ju k len n := by
  have e3 : ∀ (F' : Nat → Nat → Int32) (u' : Nat → Int32), q_sum (dSt (mF3 F' u' n) 2) n = q_sum (dSt F' 2) n := fun F' u' => q_sum_congr fun b _ => by
    unfold dSt mF3
    have e : dEnd F' n b 9 = F' b 9 := (dEnd_cols F' n b).2.2
    split
    · rfl
    · split
      · rw [e]
      · split
        · rw [e]
        · rfl
  have e2 : ∀ (F' : Nat → Nat → Int32) (u' : Nat → Int32), q_sum (dSt (mF2 F' u') 2) n = q_sum (dSt F' 2) n := fun F' u' => q_sum_congr fun b _ => by
    have e : ∀ r : Nat → Int32, bDry r 9 = r 9 := fun r => by simp [bDry, upd]
    unfold dSt mF2
    split
    · unfold dDry
      split
      · rw [e]
      · split
        · rw [e]
        · rfl
    · rfl
  unfold mF
  rw [e3, e2]
  unfold mF1 mR1
  by_cases c : u 2 = 0
  · rw [if_pos c, if_pos c, Int32.add_zero]
  · rw [if_neg c, if_neg c]
    unfold dRace dRaceR
    rw [q_sum_congr (g := fun b => dSt F 2 b + dArr (dFoul (dSail F w) ju k) len b) (fun b _ => ?_), q_sum_add]
    rw [p_in2]
    congr 1
    unfold dSt
    rw [p_foul9]
    have := p_sail2 (F b) w
    show (if bSail (F b) w 9 = 2 then (1 : Int32) else 0) = _
    by_cases q : F b 9 = 2
    · rw [if_pos (this.mpr q), if_pos q]
    · rw [if_neg (fun z => q (this.mp z)), if_neg q]
/-- what arrived in so many minutes -/
theorem p_pass (wf ju : Nat → Int32) (k : Nat) (len : Int32) (n : Nat) (S : (Nat → Nat → Int32) × (Nat → Int32)) : ∀ j, q_sum (mAr wf ju k len n S) j = q_sum (dSt (mIt wf ju k len n S j).1 2) n - q_sum (dSt S.1 2) n
  | 0 => by simp [q_sum, mIt]
  | j + 1 => by
    rw [q_sum, p_pass wf ju k len n S j, mIt, mS]
    show _ = q_sum (dSt (mF _ _ _ _ _ _ _) 2) n - _
    rw [p_arr, mAr]
    simp only [Int32.sub_eq_add_neg]
    rw [Int32.add_assoc, Int32.add_comm (-_), Int32.add_assoc]
theorem pS.pass {n : Nat} {wf wg ju ey : Nat → Int32} {k : Nat} (hw : ∀ j, j < 10 → wf j = wg j) (hj : ∀ j, j < k → ju j = ey j) (len : Int32) {S R : (Nat → Nat → Int32) × (Nat → Int32)} (h : pS S R n) (hg : rGo R.2 0) (t : Nat) : q_sum (mAr wf ju k len n S) t = q_sum (dSt (rIt wg ey k len n R t).1 2) n - q_sum (dSt R.1 2) n := by
  rw [p_pass, ((p_it hw hj len h hg t).1.1).st 2, h.1.st 2]
theorem pF.told {F G : Nat → Nat → Int32} {n : Nat} (h : pF F G n) {i o : Nat} (hi : i < n) (ho : o < 7) (w : Int32) : qTold F i o w = qTold G i o w := by
  unfold qTold
  rw [(h i hi).heel, (h i hi).speed, (h i hi).1 o (by omega)]
theorem pF.about {F G : Nat → Nat → Int32} {n : Nat} (h : pF F G n) {u nu : Nat → Int32} (hu : pU u nu) {i o : Nat} (hi : i < n) (ho : o < 5) : dAbt F u i o = rAbt G nu i o := by
  unfold dAbt rAbt
  rw [hu.2.1]
  have hb := h i hi
  by_cases c : nu 1 = 0
  · rw [if_pos c, if_pos c]
  · rw [if_neg c, if_neg c]
    rcases (show o = 0 ∨ o = 1 ∨ o = 2 ∨ o = 3 ∨ o = 4 by omega) with rfl | rfl | rfl | rfl | rfl
    · rw [if_neg (by decide)]; exact hb.1 5 (by omega)
    · rw [if_neg (by decide)]; exact hb.1 6 (by omega)
    · rw [if_neg (by decide)]; exact hb.1 7 (by omega)
    · rw [if_pos (show nI 3 = 3 from rfl), ← hb.2.1]
      by_cases c3 : F i 9 = 3
      · rw [if_pos c3]; exact hb.2.2.1 c3
      · rw [if_neg c3]; exact hb.2.2.2.1 c3
    · rw [if_neg (by decide)]; exact hb.2.1
theorem pF.ready {F G : Nat → Nat → Int32} {n : Nat} (h : pF F G n) : q_sum (dCan F) n = q_sum (rRdy G) n := q_sum_congr fun b hb => by
  unfold dCan rRdy bCan
  rw [(h b hb).1 4 (by omega)]
  by_cases q : 9 ≤ G b 4
  · simp [q]
  · simp [q]
theorem pF.enter {F G : Nat → Nat → Int32} {n : Nat} (h : pF F G n) : pF (dEnter F) (q_upto n (rEnters G) G) n := pF.up fun b hb => (h b hb).enter

/-! the class's rows and the reference's -/
/-- a boat's row of the class, f, and of the reference, g, say the same -/
def pE (f g : Nat → Int32) : Prop := (∀ k, k < 8 → f k = g k) ∧ f 9 = g 9 ∧ (f 9 = 3 → f 8 = 0) ∧ (¬ f 9 = 3 → f 8 = g 8) ∧ (f 8 = 0 ∨ f 8 = 1 ∨ f 8 = 2)
theorem pE.heel {f g : Nat → Int32} (h : pE f g) (w : Int32) : bHeel f w = bHeel g w := by
  simp only [bHeel, h.1 0 (by omega), h.1 1 (by omega), h.1 2 (by omega)]
theorem pE.speed {f g : Nat → Int32} (h : pE f g) (w : Int32) : bSpeed f w = bSpeed g w := by
  simp only [bSpeed, h.1 0 (by omega), h.1 1 (by omega), h.1 2 (by omega)]
theorem p_heel10 (f : Nat → Int32) (w : Int32) : bHeel (upd f 10 0) w = bHeel f w := rfl
theorem p_speed10 (f : Nat → Int32) (w : Int32) : bSpeed (upd f 10 0) w = bSpeed f w := rfl
theorem p_wet9 (f : Nat → Int32) : bWet f ≤ 9 := by
  unfold bWet
  split
  · next h => exact Int32.le_of_lt h
  · decide
theorem p_can (f : Nat → Int32) : (bCan (upd f 4 (bWet f)) = 0) ↔ bWet f = 9 := by
  have h1 : upd f 4 (bWet f) 4 = bWet f := by simp [upd]
  unfold bCan
  rw [h1]
  have h2 := p_wet9 f
  by_cases h : 9 ≤ bWet f
  · rw [if_pos h]
    exact ⟨fun _ => Int32.le_antisymm h2 h, fun _ => rfl⟩
  · rw [if_neg h]
    exact ⟨fun q => absurd q (by decide), fun q => absurd (by rw [q]; decide) h⟩
theorem pE.wet {f g : Nat → Int32} (h : pE f g) : bWet f = bWet g := by simp only [bWet, h.1 4 (by omega)]
theorem pE.upd8 {f g : Nat → Int32} (h : pE f g) (k : Nat) (hk : k < 8) (x : Int32) : pE (upd f k x) (upd g k x) := by
  obtain ⟨h1, h2, h3, h4, h5⟩ := h
  have e9 : ∀ r : Nat → Int32, upd r k x 9 = r 9 := fun r => by simp [upd]; omega
  have e8 : ∀ r : Nat → Int32, upd r k x 8 = r 8 := fun r => by simp [upd]; omega
  refine ⟨fun j hj => ?_, ?_, ?_, ?_, ?_⟩
  · by_cases q : j = k
    · simp [upd, q]
    · simp [upd, q, h1 j hj]
  · rw [e9, e9]; exact h2
  · rw [e9, e8]; exact h3
  · rw [e9, e8, e8]; exact h4
  · rw [e8]; exact h5
theorem pE.upd10 {f g : Nat → Int32} (h : pE f g) (x : Int32) : pE (upd f 10 x) g := by
  obtain ⟨h1, h2, h3, h4, h5⟩ := h
  refine ⟨fun j hj => ?_, ?_, ?_, ?_, ?_⟩
  · have : ¬ j = 10 := by omega
    simp [upd, this, h1 j hj]
  · exact h2
  · exact h3
  · exact h4
  · exact h5
theorem pE.sail {f g : Nat → Int32} (h : pE f g) (w : Int32) : pE (bSail f w) (rSail g w) ∧ bSail f w 10 = rWent g w := by
  have e9 := h.2.1
  unfold bSail rSail rWent
  rw [p_heel10, p_speed10, h.heel w, h.speed w, e9]
  by_cases c9 : g 9 = 1
  · rw [if_pos c9, if_pos c9, if_pos c9]
    have n3 : ¬ f 9 = 3 := by rw [e9, c9]; decide
    have e8 := h.2.2.2.1 n3
    rw [← e8]
    by_cases c8 : f 8 ≤ 0
    · rw [if_pos c8, if_pos c8, if_pos c8]
      have z8 : f 8 = 0 := by
        rcases h.2.2.2.2 with q | q | q
        · exact q
        · rw [q] at c8; exact absurd c8 (by decide)
        · rw [q] at c8; exact absurd c8 (by decide)
      by_cases c3 : bHeel g w ≤ 30
      · rw [if_pos c3, if_neg (Int32.not_lt.mpr c3), if_neg (Int32.not_lt.mpr c3)]
        refine ⟨?_, by simp [upd]⟩
        rw [h.1 5 (by omega)]
        exact ((h.upd10 0).upd8 5 (by omega) _).upd10 1
      · rw [if_neg c3, if_pos (Int32.not_le.mp c3), if_pos (Int32.not_le.mp c3)]
        have hw : bWet (upd f 10 0) = bWet g := by show bWet f = _; exact h.wet
        unfold bFall
        have h10 := h.upd10 0
        have hc := p_can (upd f 10 0)
        rw [hw] at hc ⊢
        by_cases c2 : bWet g = 9
        · rw [if_pos (hc.mpr c2), if_pos c2]
          refine ⟨⟨fun k hk => ?_, ?_, fun _ => ?_, fun q => ?_, Or.inl ?_⟩, ?_⟩
          · unfold rWet
            by_cases q4 : k = 4
            · subst q4; simp [upd]
            · have n9 : ¬ k = 9 := by omega
              have n8 : ¬ k = 8 := by omega
              have n10 : ¬ k = 10 := by omega
              simp [upd, q4, n9, n8, n10, h.1 k hk]
          · simp [upd]
          · simpa [upd] using z8
          · exact absurd (by simp [upd]) q
          · simpa [upd] using z8
          · simp [upd]
        · rw [if_neg (fun q => c2 (hc.mp q)), if_neg c2]
          refine ⟨⟨fun k hk => ?_, ?_, fun q => ?_, fun q => ?_, Or.inr (Or.inr ?_)⟩, ?_⟩
          · unfold rWet
            by_cases q4 : k = 4
            · subst q4; simp [upd]
            · have n8 : ¬ k = 8 := by omega
              have n10 : ¬ k = 10 := by omega
              simp [upd, q4, n8, n10, h.1 k hk]
          · simpa [rWet, upd] using e9
          · exact absurd (by simpa [upd] using q) n3
          · simp [rWet, upd]
          · simp [upd]
          · simp [upd]
    · rw [if_neg c8, if_neg c8, if_neg c8]
      refine ⟨⟨fun k hk => ?_, ?_, fun q => ?_, fun q => ?_, ?_⟩, by simp [upd]⟩
      · have n8 : ¬ k = 8 := by omega
        have n10 : ¬ k = 10 := by omega
        simp [upd, n8, n10, h.1 k hk]
      · simpa [upd] using e9
      · exact absurd (by simpa [upd] using q) n3
      · simp [upd]
      · rcases h.2.2.2.2 with q | q | q
        · rw [q] at c8; exact absurd (by decide) c8
        · exact Or.inl (by simp [upd, q])
        · exact Or.inr (Or.inl (by simp only [upd, q]; decide))
  · rw [if_neg c9, if_neg c9, if_neg c9]
    exact ⟨h.upd10 0, by simp [upd]⟩
theorem pE.inn {f g : Nat → Int32} (h : pE f g) (len t : Int32) : pE (bIn f len t) (bIn g len t) ∧ bInR f len = bInR g len := by
  obtain ⟨h1, h2, h3, h4, h5⟩ := h
  unfold bIn bInR
  rw [h2, h1 5 (by omega)]
  by_cases c9 : g 9 = 1
  · rw [if_pos c9, if_pos c9, if_pos c9]
    have n3 : ¬ f 9 = 3 := by rw [h2, c9]; decide
    by_cases cl : len ≤ g 5
    · rw [if_pos cl, if_pos cl]
      refine ⟨⟨fun k hk => ?_, by simp [upd], fun q => absurd q (by simp [upd]), fun _ => ?_, ?_⟩, rfl⟩
      · have n9 : ¬ k = 9 := by omega
        by_cases q6 : k = 6
        · subst q6; simp [upd]
        · simp [upd, n9, q6, h1 k hk]
      · simpa [upd] using h4 n3
      · simpa [upd] using h5
    · rw [if_neg cl, if_neg cl]
      exact ⟨⟨h1, h2, h3, h4, h5⟩, rfl⟩
  · rw [if_neg c9, if_neg c9, if_neg c9]
    exact ⟨⟨h1, h2, h3, h4, h5⟩, rfl⟩
theorem pE.dry {f g : Nat → Int32} (h : pE f g) : pE (bDry f) (bDry g) := by
  unfold bDry
  rw [h.1 4 (by omega)]
  exact h.upd8 4 (by omega) _
theorem pE.enter {f g : Nat → Int32} (h : pE f g) : pE (bEnter f) (rEnter g) := by
  have h4 := h.1 4 (by omega)
  unfold bEnter rEnter bCan
  have e4 : (upd (upd (upd (upd f 5 0) 6 (-1)) 7 0) 8 0) 4 = g 4 := by simp [upd, h4]
  rw [e4]
  have ex : (if (if 9 ≤ g 4 then (0 : Int32) else 1) = 0 then (0 : Int32) else 1) = if 9 ≤ g 4 then 0 else 1 := by
    by_cases q : 9 ≤ g 4
    · simp [q]
    · simp [q]
  rw [ex]
  refine ⟨fun k hk => ?_, by simp [upd], fun _ => by simp [upd], fun _ => by simp [upd], Or.inl (by simp [upd])⟩
  have n9 : ¬ k = 9 := by omega
  have n8 : ¬ k = 8 := by omega
  simp only [upd, n9, n8, if_false, h.1 k hk]
theorem p_any {f : Nat → Bool} : ∀ {n : Nat}, q_any f n = true ↔ ∃ j, j < n ∧ f j = true
  | 0 => by simp [q_any]
  | n + 1 => by
    rw [q_any, Bool.or_eq_true, p_any]
    constructor
    · rintro (⟨j, h1, h2⟩ | h)
      · exact ⟨j, by omega, h2⟩
      · exact ⟨n, by omega, h⟩
    · rintro ⟨j, h1, h2⟩
      by_cases q : j = n
      · subst q; exact Or.inr h2
      · exact Or.inl ⟨j, by omega, h2⟩
theorem p_fl {P wv : Nat → Int32} {x : Int32} : ∀ {n : Nat}, (¬ rFl P wv x n = 0) ↔ ∃ a, a < n ∧ ¬ wv a = 0 ∧ P a = x
  | 0 => by simp [rFl]
  | n + 1 => by
    unfold rFl
    by_cases h : rFl P wv x n = 0
    · rw [if_pos h]
      have hn : ¬ ∃ a, a < n ∧ ¬ wv a = 0 ∧ P a = x := fun q => (p_fl.mpr q) h
      by_cases hw : wv n = 0
      · rw [if_pos hw]
        refine ⟨fun q => absurd rfl q, ?_⟩
        rintro ⟨a, h1, h2, h3⟩
        by_cases q : a = n
        · subst q; exact absurd hw h2
        · exact absurd ⟨a, by omega, h2, h3⟩ hn
      · rw [if_neg hw]
        by_cases hp : P n = x
        · rw [if_pos hp]
          exact ⟨fun _ => ⟨n, by omega, hw, hp⟩, fun _ => by decide⟩
        · rw [if_neg hp]
          refine ⟨fun q => absurd rfl q, ?_⟩
          rintro ⟨a, h1, h2, h3⟩
          by_cases q : a = n
          · subst q; exact absurd h3 hp
          · exact absurd ⟨a, by omega, h2, h3⟩ hn
    · rw [if_neg h]
      refine ⟨fun _ => ?_, fun _ => by decide⟩
      obtain ⟨a, h1, h2, h3⟩ := p_fl.mp h
      exact ⟨a, by omega, h2, h3⟩
theorem p_abs (y : Int32) : bAbs (-y) = bAbs y := by
  have h1 := Int32.toInt_lt y
  have h2 := Int32.le_toInt y
  by_cases m : y.toInt = -2147483648
  · have : y = -2147483648 := Int32.toInt_inj.mp (m.trans (by decide))
    subst this
    decide
  have hn : (-y).toInt = -y.toInt := by
    rw [Int32.toInt_neg y]
    have e : (2 ^ 32 : Nat) = 4294967296 := by decide
    rw [e]
    simp only [Int.bmod]
    split <;> omega
  have z0 : (0 : Int32).toInt = 0 := by decide
  have e1 : (0 - -y) = y := by simp
  have e2 : (0 - y) = -y := by simp
  unfold bAbs
  rw [e1, e2]
  by_cases a : 0 ≤ y
  · rw [if_pos a]
    have a' := Int32.le_iff_toInt_le.mp a
    rw [z0] at a'
    by_cases b : 0 ≤ -y
    · rw [if_pos b]
      have b' := Int32.le_iff_toInt_le.mp b
      rw [z0, hn] at b'
      have e9 : y.toInt = 0 := by omega
      exact Int32.toInt_inj.mp (by omega)
    · rw [if_neg b]
  · rw [if_neg a]
    have a' : ¬ (0 : Int) ≤ y.toInt := by
      rw [← z0]
      exact fun q => a (Int32.le_iff_toInt_le.mpr q)
    have b : 0 ≤ -y := Int32.le_iff_toInt_le.mpr (by rw [z0, hn]; omega)
    rw [if_pos b]
theorem p_see {ju ey : Nat → Int32} {k : Nat} (h : ∀ j, j < k → ju j = ey j) (x : Int32) : bSee ju k x = rSee ey k x := by
  unfold bSee rSee
  have : q_any (fun j => decide (bAbs (x - ju j) ≤ 10)) k = q_any (fun j => decide (bAbs (ey j - x) ≤ 10)) k := q_any_congr fun j hj => by
    show decide (bAbs (x - ju j) ≤ 10) = decide (bAbs (ey j - x) ≤ 10)
    rw [h j hj, ← p_abs (x - ey j), Int32.neg_sub]
  rw [this]
/-- the fleet's rows and the reference's -/
def pF (F G : Nat → Nat → Int32) (n : Nat) : Prop := ∀ b, b < n → pE (F b) (G b)
/-- .. and what a fleet and the reference count -/
def pU (u nu : Nat → Int32) : Prop := u 0 = nu 0 ∧ u 1 = nu 1 ∧ u 2 = nu 2 ∧ u 3 = nu 3 ∧ (u 2 = 0 ∨ u 2 = 1)
theorem pU.on {u nu : Nat → Int32} (h : pU u nu) : bOn nu = 0 ↔ u 2 = 0 := by
  unfold bOn
  rw [← h.2.2.1]
  rcases h.2.2.2.2 with q | q <;> simp [q]
theorem pF.up {G : Nat → Nat → Int32} {n : Nat} {F2 G2 : Nat → Nat → Int32} (h : ∀ b, b < n → pE (F2 b) (G2 b)) : pF F2 (q_upto n G2 G) n := fun b hb => by
  rw [q_upto_lt _ _ hb]
  exact h b hb
theorem pF.rank {F G : Nat → Nat → Int32} {n : Nat} (h : pF F G n) {i : Nat} (hi : i < n) : dRank F n i = dRank G n i := by
  unfold dRank
  refine q_sum_congr fun k hk => ?_
  have hk1 := h k hk
  have hi1 := h i hi
  unfold dAh dBet bRes
  rw [hk1.2.1, hk1.1 6 (by omega), hk1.1 7 (by omega), hi1.1 6 (by omega), hi1.1 7 (by omega)]
theorem pF.fin {F G : Nat → Nat → Int32} {n : Nat} (h : pF F G n) : pF (dEnd F n) (q_upto n (dEnd G n) G) n := pF.up fun b hb => by
  unfold dEnd
  rw [(h b hb).2.1, h.rank hb, (h b hb).1 3 (by omega)]
  split
  · exact (h b hb).upd8 3 (by omega) _
  · exact h b hb
theorem pF.st {F G : Nat → Nat → Int32} {n : Nat} (h : pF F G n) (x : Int32) : q_sum (dSt F x) n = q_sum (dSt G x) n := q_sum_congr fun k hk => by simp only [dSt, (h k hk).2.1]
theorem pF.col {F G : Nat → Nat → Int32} {n : Nat} (h : pF F G n) {c : Nat} (hc : c < 8) : q_sum (dCol F c) n = q_sum (dCol G c) n := q_sum_congr fun k hk => by simp only [dCol, (h k hk).1 c hc]
/-- the minute's fouls -/
theorem pF.foul {F G : Nat → Nat → Int32} {n : Nat} {wv ju ey : Nat → Int32} {k : Nat} (h : pF F G n) (hw : ∀ b, b < n → F b 10 = wv b) (hj : ∀ j, j < k → ju j = ey j) {b : Nat} (hb : b < n) : pE (dFoul F ju k b) (rFouls G wv ey k b) := by
  have e5 : ∀ a, a < n → F a 5 = G a 5 := fun a ha => (h a ha).1 5 (by omega)
  have hit : q_any (dHit F ju k b) b = true ↔ (¬ wv b = 0 ∧ ¬ rFl (fun a => G a 5) wv (G b 5) b = 0 ∧ ¬ G b 5 ≤ 0 ∧ ¬ rSee ey k (G b 5) = 0) := by
    rw [p_any, p_fl]
    constructor
    · rintro ⟨j, h1, h2⟩
      simp only [dHit, Bool.and_eq_true, decide_eq_true_eq] at h2
      obtain ⟨h2, h3⟩ := h2
      rw [p_see hj, e5 b hb] at h3
      unfold bTouch at h2
      rw [hw b hb, hw j (by omega), e5 b hb, e5 j (by omega)] at h2
      by_cases q1 : wv b = 0
      · rw [if_pos q1] at h2; exact absurd rfl h2
      · rw [if_neg q1] at h2
        by_cases q2 : wv j = 0
        · rw [if_pos q2] at h2; exact absurd rfl h2
        · rw [if_neg q2] at h2
          by_cases q3 : G b 5 = G j 5
          · rw [if_pos q3] at h2
            by_cases q4 : G b 5 < 1
            · rw [if_pos q4] at h2; exact absurd rfl h2
            · refine ⟨q1, ⟨j, h1, q2, q3.symm⟩, fun q => q4 ?_, h3⟩
              exact Int32.lt_of_le_of_lt q (by decide)
          · rw [if_neg q3] at h2; exact absurd rfl h2
    · rintro ⟨q1, ⟨j, h1, q2, q3⟩, q4, q5⟩
      refine ⟨j, h1, ?_⟩
      simp only [dHit, Bool.and_eq_true, decide_eq_true_eq]
      rw [p_see hj, e5 b hb]
      refine ⟨?_, q5⟩
      unfold bTouch
      have q6 : ¬ G b 5 < 1 := fun q => q4 (by
        have := Int32.lt_iff_toInt_lt.mp q
        rw [show (1 : Int32).toInt = 1 by decide] at this
        exact Int32.le_iff_toInt_le.mpr (by rw [show (0 : Int32).toInt = 0 by decide]; omega))
      rw [hw b hb, hw j (by omega), e5 b hb, e5 j (by omega), if_neg q1, if_neg q2, if_pos q3.symm, if_neg q6]
      decide
  unfold dFoul dFoulR rFouls
  by_cases c : q_any (dHit F ju k b) b = true
  · obtain ⟨c1, c2, c3, c4⟩ := hit.mp c
    rw [if_pos c, if_neg c1, if_neg c2, if_neg c3, if_neg c4, (h b hb).1 7 (by omega)]
    exact (h b hb).upd8 7 (by omega) _
  · rw [if_neg c]
    by_cases c1 : wv b = 0
    · rw [if_pos c1]; exact h b hb
    · rw [if_neg c1]
      by_cases c2 : rFl (fun a => G a 5) wv (G b 5) b = 0
      · rw [if_pos c2]; exact h b hb
      · rw [if_neg c2]
        by_cases c3 : G b 5 ≤ 0
        · rw [if_pos c3]; exact h b hb
        · rw [if_neg c3]
          by_cases c4 : rSee ey k (G b 5) = 0
          · rw [if_pos c4]; exact h b hb
          · exact absurd (hit.mpr ⟨c1, c2, c3, c4⟩) c
theorem pF.race {F G : Nat → Nat → Int32} {n : Nat} {ju ey : Nat → Int32} {k : Nat} (h : pF F G n) (hj : ∀ j, j < k → ju j = ey j) (w len t : Int32) : pF (dRace F w ju k len t) (rRace G w ey k len t n) n ∧ dRaceR F w ju k len n = q_sum (dArr (rG2 G w ey k n) len) n := by
  have h1 : pF (dSail F w) (rG1 G w n) n := pF.up fun b hb => ((h b hb).sail w).1
  have hw : ∀ b, b < n → dSail F w b 10 = rWv G w n b := fun b hb => by
    unfold rWv
    rw [q_upto_lt _ _ hb]
    exact ((h b hb).sail w).2
  have h2 : pF (dFoul (dSail F w) ju k) (rG2 G w ey k n) n := pF.up fun b hb => h1.foul hw hj hb
  refine ⟨pF.up fun b hb => ((h2 b hb).inn len t).1, ?_⟩
  unfold dRaceR
  refine q_sum_congr fun b hb => ?_
  unfold dArr
  rw [((h2 b hb).inn len 0).2]
/-- one minute -/
theorem p_minute {F G : Nat → Nat → Int32} {u nu : Nat → Int32} {n : Nat} {ju ey : Nat → Int32} {k : Nat} (h : pF F G n) (hu : pU u nu) (hg : rGo nu 0) (hj : ∀ j, j < k → ju j = ey j) (w len : Int32) : pF (mF F u w ju k len n) (rG G nu w ey k len n) n ∧ pU (mU F u w ju k len n) (rU G nu w ey k len n) := by
  have hon := hu.on
  have h1 : pF (mF1 F u w ju k len) (rA1 G nu w ey k len n) n := by
    unfold mF1 rA1
    by_cases c : u 2 = 0
    · rw [if_pos c, if_pos (hon.mpr c)]; exact h
    · rw [if_neg c, if_neg (fun q => c (hon.mp q)), hu.2.2.2.1]
      exact (h.race hj w len _).1
  have hu1 : pU (mU1 u) (rU1 nu) := by
    unfold mU1 rU1
    by_cases c : u 2 = 0
    · rw [if_pos c, if_pos (hon.mpr c)]; exact hu
    · rw [if_neg c, if_neg (fun q => c (hon.mp q))]
      exact ⟨by simp [upd, hu.1], by simp [upd, hu.2.1], by simp [upd, hu.2.2.1], by simp [upd, hu.2.2.2.1], by simpa [upd] using hu.2.2.2.2⟩
  have h60 : (60 ≤ mU1 u 3 ∧ ¬ u 2 = 0) ↔ (rU1 nu 3 = 60 ∧ ¬ u 2 = 0) := by
    rw [hu1.2.2.2.1]
    constructor
    · rintro ⟨q1, q2⟩
      refine ⟨?_, q2⟩
      rcases hg with q | ⟨g, -, g2, g3⟩
      · exact absurd (hon.mp q) q2
      · have e1 : rU1 nu 3 = nI (g + 1) := by
          unfold rU1
          rw [if_neg (fun q => q2 (hon.mp q)), show upd nu 3 (nu 3 + 1) 3 = nu 3 + 1 from rfl, g3]
          exact nI_1 g
        rw [e1] at q1 ⊢
        have := (nI_leI (a := 60) (b := g + 1) (by omega) (by omega)).mp q1
        rw [show g + 1 = 60 by omega]; rfl
    · rintro ⟨q1, q2⟩
      exact ⟨by rw [q1]; decide, q2⟩
  have hon1 := hu1.on
  have h2 : pF (mF2 (mF1 F u w ju k len) (mU1 u)) (rA2 (rA1 G nu w ey k len n) (rU1 nu) n) n := pF.up fun b hb => by
    unfold mF2 rDryF
    rw [hu1.1]
    by_cases c : rU1 nu 0 - rU1 nu 0 / 5 * 5 = 0
    · rw [if_pos c, if_pos c]
      unfold dDry
      by_cases c2 : mU1 u 2 = 0
      · rw [if_pos c2, if_pos (hon1.mpr c2)]; exact (h1 b hb).dry
      · rw [if_neg c2, if_neg (fun q => c2 (hon1.mp q)), (h1 b hb).2.1]
        split
        · exact (h1 b hb).dry
        · exact h1 b hb
    · rw [if_neg c, if_neg c]; exact h1 b hb
  have e2 : mU1 u 2 = u 2 := by
    unfold mU1
    split
    · rfl
    · simp [upd]
  have hU2 : pU (mU2 (mU1 u)) (rU2 (rU1 nu)) := ⟨by simp [mU2, rU2, upd, hu1.1], by simp [mU2, rU2, upd, hu1.2.1], by simp [mU2, rU2, upd, hu1.2.2.1], by simp [mU2, rU2, upd, hu1.2.2.2.1], by simpa [mU2, upd] using hu1.2.2.2.2⟩
  have hU3 : pU (upd (mU2 (mU1 u)) 2 0) (upd (rU2 (rU1 nu)) 2 0) := ⟨by simp [upd, hU2.1], by simp [upd, hU2.2.1], by simp [upd], by simp [upd, hU2.2.2.2.1], Or.inl (by simp [upd])⟩
  unfold mF mU rG rU mF3 mU3 rA3 rU3
  rw [h2.st 1]
  by_cases c2 : mU1 u 2 = 0
  · rw [if_pos c2, if_pos c2, if_pos (hon1.mpr c2), if_pos (hon1.mpr c2)]
    exact ⟨h2, hU2⟩
  · have c2' := fun q => c2 (hon1.mp q)
    rw [if_neg c2, if_neg c2, if_neg c2', if_neg c2']
    rw [e2] at c2
    by_cases cs : q_sum (dSt (rA2 (rA1 G nu w ey k len n) (rU1 nu) n) 1) n = 0
    · simp only [if_pos cs, ite_self]
      exact ⟨h2.fin, hU3⟩
    · simp only [if_neg cs]
      by_cases c60 : 60 ≤ mU1 u 3
      · have c61 := (h60.mp ⟨c60, c2⟩).1
        rw [if_pos c60, if_pos c60, if_pos c61, if_pos c61]
        exact ⟨h2.fin, hU3⟩
      · have c61 := fun q => c60 (h60.mpr ⟨q, c2⟩).1
        rw [if_neg c60, if_neg c60, if_neg c61, if_neg c61]
        exact ⟨h2, hU2⟩

/-- the states of a fleet and of the reference -/
def pS (S R : (Nat → Nat → Int32) × (Nat → Int32)) (n : Nat) : Prop := pF S.1 R.1 n ∧ pU S.2 R.2
theorem wAt_congr {wf wg : Nat → Int32} (h : ∀ j, j < 10 → wf j = wg j) (x : Int32) : wAt wf x = wAt wg x := h _ (Nat.mod_lt _ (by omega))
theorem p_mS {S R : (Nat → Nat → Int32) × (Nat → Int32)} {n : Nat} {wf wg ju ey : Nat → Int32} {k : Nat} (h : pS S R n) (hg : rGo R.2 0) (hw : ∀ j, j < 10 → wf j = wg j) (hj : ∀ j, j < k → ju j = ey j) (len : Int32) : pS (mS wf ju k len n S) (rS wg ey k len n R) n := by
  unfold mS rS
  rw [h.2.1, wAt_congr hw]
  exact p_minute h.1 h.2 hg hj _ len
theorem rGo.less {nu : Nat → Int32} {i j : Nat} (h : rGo nu j) (hi : i ≤ j) : rGo nu i := by
  rcases h with h | ⟨g, h1, h2, h3⟩
  · exact Or.inl h
  · exact Or.inr ⟨g, by omega, h2, h3⟩
theorem p_mRun {n : Nat} {wf wg ju ey : Nat → Int32} {k : Nat} (hw : ∀ j, j < 10 → wf j = wg j) (hj : ∀ j, j < k → ju j = ey j) (len : Int32) : ∀ (f : Nat) (S R : (Nat → Nat → Int32) × (Nat → Int32)), pS S R n → rGo R.2 0 → pS (mRun wf ju k len n f S) (rRun wg ey k len n f R) n
  | 0, S, R, h, _ => h
  | f + 1, S, R, h, hg => by
    unfold mRun rRun
    by_cases c : S.2 2 = 0
    · rw [if_pos c, if_pos (h.2.on.mpr c)]; exact h
    · have c' := fun q => c (h.2.on.mp q)
      rw [if_neg c, if_neg c']
      exact p_mRun hw hj len f _ _ (p_mS h hg hw hj len) ((rS_go c' hg).less (by omega))

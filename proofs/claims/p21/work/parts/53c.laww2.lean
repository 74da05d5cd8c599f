/-! what the law's checks say, in a race -/
section ZC2
variable {F F2 : Nat → Nat → Int32} {u u2 : Nat → Int32} {w len : Int32} {i : Nat}
theorem zL1 (h : zH F F2 u u2 w len i) (hB : F i 9 = 3 → F i 8 = 0) (c : dAbt F2 u2 i 4 = 3) : dAbt F2 u2 i 3 = 0 := by
  rw [h.2.2.1 4] at c
  rw [h.2.2.1 3]
  have c : F2 i 9 = 3 := c
  show F2 i 8 = 0
  rcases h.1 with z | z | z | z | z
  · exact absurd (z.2.2.2.2.2.2.symm.trans c) (by decide)
  · exact z.2.2.2.2.2.1
  · exact z.2.2.2.2.2.2.2.1
  · exact absurd (z.2.2.2.2.2.2.2.2.symm.trans c) (by decide)
  · exact z.2.2.2.2.1.trans (hB (z.2.2.2.2.2.symm.trans c))
theorem zL2 (h : zH F F2 u u2 w len i) (d : ¬ dAbt F2 u2 i 4 = 3) (c : ¬ zF F u w i = 0) : dAbt F2 u2 i 3 = 2 := by
  rw [h.2.2.1 4] at d
  rw [h.2.2.1 3]
  have d : ¬ F2 i 9 = 3 := d
  show F2 i 8 = 2
  rcases zFG h with ⟨-, -, q, -⟩ | ⟨-, -, -, q, -⟩ | ⟨a, b, g, -, -⟩ | ⟨-, q, -⟩
  · exact absurd q c
  · exact absurd q c
  · rcases h.1 with z | z | z | z | z
    · exact absurd b z.2.1
    · exact absurd z.2.2.1 g
    · exact absurd z.2.2.2.2.2.2.2.2 d
    · exact z.2.2.2.2.2.2.2.1
    · exact absurd a z.1
  · exact absurd q c
theorem zL3 (h : zH F F2 u u2 w len i) (c : zF F u w i = 0) (s : ¬ zS F u i = 0) (e : ¬ dAbt F u i 3 ≤ 0) : dAbt F2 u2 i 3 = dAbt F u i 3 - 1 := by
  rw [h.2.1 3] at e
  rw [h.2.2.1 3, h.2.1 3]
  have e : ¬ F i 8 ≤ 0 := e
  have e0 : ¬ F i 8 = 0 := fun q => e (by rw [q]; decide)
  show F2 i 8 = F i 8 - 1
  rcases zS1 h with ⟨-, a⟩ | ⟨q, -⟩
  · rcases h.1 with z | z | z | z | z
    · exact z.2.2.2.2.2.1
    · exact absurd z.2.1 e0
    · exact absurd z.2.1 e0
    · exact absurd z.2.1 e0
    · exact absurd a z.1
  · exact absurd q s
theorem zL4 (h : zH F F2 u u2 w len i) (hB : F i 8 = 0 ∨ F i 8 = 1 ∨ F i 8 = 2) (c : zF F u w i = 0) (s : zS F u i = 0 ∨ dAbt F u i 3 ≤ 0) : dAbt F2 u2 i 3 = dAbt F u i 3 := by
  rw [h.2.1 3] at s
  rw [h.2.2.1 3, h.2.1 3]
  have s : zS F u i = 0 ∨ F i 8 ≤ 0 := s
  show F2 i 8 = F i 8
  rcases zFG h with ⟨a, b, -, -⟩ | ⟨a, b, g, -, -⟩ | ⟨-, -, -, q, -⟩ | ⟨a, -, -⟩
  · rcases s with s | s
    · rcases zS1 h with ⟨q, -⟩ | ⟨-, q⟩
      · rw [q] at s; exact absurd s (by decide)
      · exact absurd a q
    · rcases hB with q | q | q
      · exact absurd q b
      · rw [q] at s; exact absurd s (by decide)
      · rw [q] at s; exact absurd s (by decide)
  · rcases h.1 with z | z | z | z | z
    · exact absurd b z.2.1
    · exact z.2.2.2.2.2.1.trans b.symm
    · exact absurd g z.2.2.1
    · exact absurd g z.2.2.1
    · exact absurd a z.1
  · rw [q] at c; exact absurd c (by decide)
  · rcases h.1 with z | z | z | z | z
    · exact absurd z.1 a
    · exact absurd z.1 a
    · exact absurd z.1 a
    · exact absurd z.1 a
    · exact z.2.2.2.2.1
/-- in it: it was, or it went and is as far -/
theorem zI1 (h : zH F F2 u u2 w len i) (c : dAbt F u i 4 = 2) : zI F2 u2 i = 1 := by
  rw [h.2.1 4] at c
  have c : F i 9 = 2 := c
  unfold zI
  rw [h.2.2.1 4]
  have e : F2 i 9 = 2 := by
    rcases h.1 with z | z | z | z | z
    · exact absurd (z.1.symm.trans c) (by decide)
    · exact absurd (z.1.symm.trans c) (by decide)
    · exact absurd (z.1.symm.trans c) (by decide)
    · exact absurd (z.1.symm.trans c) (by decide)
    · exact z.2.2.2.2.2.trans c
  exact if_pos e
theorem zI2 (h : zH F F2 u u2 w len i) (c : ¬ zG F u w i = 0) (d : len ≤ dAbt F2 u2 i 0) : zI F2 u2 i = 1 := by
  rw [h.2.2.1 0] at d
  have d : len ≤ F2 i 5 := d
  unfold zI
  rw [h.2.2.1 4]
  have e : F2 i 9 = 2 := by
    rcases zFG h with ⟨-, -, -, q⟩ | ⟨a, b, g, -, -⟩ | ⟨-, -, -, -, q⟩ | ⟨-, -, q⟩
    · exact absurd q c
    · rcases h.1 with z | z | z | z | z
      · exact absurd b z.2.1
      · rcases z.2.2.2.2.2.2 with y | y
        · exact y.2.1
        · exact absurd d y.1
      · exact absurd g z.2.2.1
      · exact absurd g z.2.2.1
      · exact absurd a z.1
    · exact absurd q c
    · exact absurd q c
  exact if_pos e
theorem zI3 (h : zH F F2 u u2 w len i) (c : ¬ dAbt F u i 4 = 2) (d : zG F u w i = 0 ∨ ¬ len ≤ dAbt F2 u2 i 0) : zI F2 u2 i = 0 := by
  rw [h.2.1 4] at c
  rw [h.2.2.1 0] at d
  have c : ¬ F i 9 = 2 := c
  have d : zG F u w i = 0 ∨ ¬ len ≤ F2 i 5 := d
  unfold zI
  rw [h.2.2.1 4]
  have e : ¬ F2 i 9 = 2 := fun q => by
    rcases h.1 with z | z | z | z | z
    · exact absurd (z.2.2.2.2.2.2.symm.trans q) (by decide)
    · rcases d with d | d
      · rcases zFG h with ⟨-, b, -, -⟩ | ⟨-, -, -, -, y⟩ | ⟨-, -, g, -, -⟩ | ⟨a, -, -⟩
        · exact b z.2.1
        · rw [y] at d; exact absurd d (by decide)
        · exact g z.2.2.1
        · exact a z.1
      · rcases z.2.2.2.2.2.2 with y | y
        · exact d y.1
        · exact absurd (y.2.1.symm.trans q) (by decide)
    · exact absurd (z.2.2.2.2.2.2.2.2.symm.trans q) (by decide)
    · exact absurd (z.2.2.2.2.2.2.2.2.symm.trans q) (by decide)
    · exact c (z.2.2.2.2.2.symm.trans q)
  exact if_neg e
/-- out: it was, or it fell over with 9 -/
theorem zT3 (h : zH F F2 u u2 w len i) (c : dAbt F u i 4 = 3) : dAbt F2 u2 i 4 = 3 := by
  rw [h.2.1 4] at c
  rw [h.2.2.1 4]
  have c : F i 9 = 3 := c
  rcases h.1 with z | z | z | z | z
  · exact absurd (z.1.symm.trans c) (by decide)
  · exact absurd (z.1.symm.trans c) (by decide)
  · exact absurd (z.1.symm.trans c) (by decide)
  · exact absurd (z.1.symm.trans c) (by decide)
  · exact z.2.2.2.2.2.trans c
theorem zT4 (h : zH F F2 u u2 w len i) (c : ¬ zF F u w i = 0) (d : F2 i 4 = 9) : dAbt F2 u2 i 4 = 3 := by
  rw [h.2.2.1 4]
  rcases zFG h with ⟨-, -, q, -⟩ | ⟨-, -, -, q, -⟩ | ⟨a, b, g, -, -⟩ | ⟨-, q, -⟩
  · exact absurd q c
  · exact absurd q c
  · rcases h.1 with z | z | z | z | z
    · exact absurd b z.2.1
    · exact absurd z.2.2.1 g
    · exact z.2.2.2.2.2.2.2.2
    · exact absurd (z.2.2.2.2.1.symm.trans d) z.2.2.2.1
    · exact absurd a z.1
  · exact absurd q c
theorem zT5 (h : zH F F2 u u2 w len i) (c : ¬ dAbt F u i 4 = 3) (d : zF F u w i = 0 ∨ ¬ F2 i 4 = 9) : ¬ dAbt F2 u2 i 4 = 3 := by
  rw [h.2.1 4] at c
  rw [h.2.2.1 4]
  have c : ¬ F i 9 = 3 := c
  intro q
  have q : F2 i 9 = 3 := q
  rcases h.1 with z | z | z | z | z
  · exact absurd (z.2.2.2.2.2.2.symm.trans q) (by decide)
  · rcases z.2.2.2.2.2.2 with y | y
    · exact absurd (y.2.1.symm.trans q) (by decide)
    · exact absurd (y.2.1.symm.trans q) (by decide)
  · rcases d with d | d
    · rcases zFG h with ⟨-, b, -, -⟩ | ⟨-, -, g, -, -⟩ | ⟨-, -, -, y, -⟩ | ⟨a, -, -⟩
      · exact b z.2.1
      · exact z.2.2.1 g
      · rw [y] at d; exact absurd d (by decide)
      · exact a z.1
    · exact d z.2.2.2.2.1
  · exact absurd (z.2.2.2.2.2.2.2.2.symm.trans q) (by decide)
  · exact c (z.2.2.2.2.2.symm.trans q)
/-- times -/
theorem zE1 (h : zH F F2 u u2 w len i) (c : ¬ zI F2 u2 i = 0) (d : dAbt F u i 4 = 1) : F2 i 9 = 2 ∧ dAbt F2 u2 i 1 = u 3 + 1 := by
  rw [h.2.1 4] at d
  have d : F i 9 = 1 := d
  have e : F2 i 9 = 2 := by
    unfold zI at c
    rw [h.2.2.1 4] at c
    by_cases q : F2 i 9 = 2
    · exact q
    · exact absurd (if_neg q) c
  refine ⟨e, ?_⟩
  rw [h.2.2.1 1]
  rcases h.1 with z | z | z | z | z
  · exact absurd (z.2.2.2.2.2.2.symm.trans e) (by decide)
  · rcases z.2.2.2.2.2.2 with y | y
    · exact y.2.2
    · exact absurd (y.2.1.symm.trans e) (by decide)
  · exact absurd (z.2.2.2.2.2.2.2.2.symm.trans e) (by decide)
  · exact absurd (z.2.2.2.2.2.2.2.2.symm.trans e) (by decide)
  · exact absurd d z.1
theorem zE2 (h : zH F F2 u u2 w len i) (c : zI F2 u2 i = 0 ∨ ¬ dAbt F u i 4 = 1) : dAbt F2 u2 i 1 = dAbt F u i 1 := by
  rw [h.2.1 4] at c
  rw [h.2.2.1 1, h.2.1 1]
  have c : zI F2 u2 i = 0 ∨ ¬ F i 9 = 1 := c
  show F2 i 6 = F i 6
  rcases h.1 with z | z | z | z | z
  · exact z.2.2.2.2.1
  · rcases z.2.2.2.2.2.2 with y | y
    · rcases c with c | c
      · unfold zI at c
        rw [h.2.2.1 4, if_pos (show F2 i (5 + 4) = 2 from y.2.1)] at c
        exact absurd c (by decide)
      · exact absurd z.1 c
    · exact y.2.2
  · exact z.2.2.2.2.2.2.1
  · exact z.2.2.2.2.2.2.1
  · exact z.2.2.2.1
end ZC2
/-! fouls -/
theorem z_bt (r q : Nat → Int32) : (¬ bTouch r q = 0) ↔ (¬ r 10 = 0 ∧ ¬ q 10 = 0 ∧ r 5 = q 5 ∧ ¬ r 5 < 1) := by
  unfold bTouch
  by_cases a : r 10 = 0
  · rw [if_pos a]; exact ⟨fun h => absurd rfl h, fun h => absurd a h.1⟩
  · rw [if_neg a]
    by_cases b : q 10 = 0
    · rw [if_pos b]; exact ⟨fun h => absurd rfl h, fun h => absurd b h.2.1⟩
    · rw [if_neg b]
      by_cases c : r 5 = q 5
      · rw [if_pos c]
        by_cases d : r 5 < 1
        · rw [if_pos d]; exact ⟨fun h => absurd rfl h, fun h => absurd d h.2.2.2⟩
        · rw [if_neg d]; exact ⟨fun _ => ⟨a, b, c, d⟩, fun _ => by decide⟩
      · rw [if_neg c]; exact ⟨fun h => absurd rfl h, fun h => absurd h.2.2.1 c⟩
theorem z_lt1 {x : Int32} : ¬ x < 1 ↔ ¬ x ≤ 0 := by
  rw [Int32.lt_iff_toInt_lt, Int32.le_iff_toInt_le, show (1 : Int32).toInt = 1 from by decide, show (0 : Int32).toInt = 0 from by decide]
  omega
section ZD
variable {F F2 : Nat → Nat → Int32} {u u2 ju ey : Nat → Int32} {w len : Int32} {k n i : Nat}
/-- who went -/
theorem z_went {a : Nat} (h : zH F F2 u u2 w len a) (hB : F a 8 = 0 ∨ F a 8 = 1 ∨ F a 8 = 2) : (¬ bSail (F a) w 10 = 0) ↔ ¬ zG F u w a = 0 := by
  obtain ⟨-, hs⟩ := k_sail (w := w) hB
  rcases zFG h with ⟨a1, b, -, q⟩ | ⟨a1, b, g, -, q⟩ | ⟨a1, b, g, -, q⟩ | ⟨a1, -, q⟩
  · rcases hs with z | z | z | z | z
    · rw [z.2.2.2.2.2.2, q]
    · exact absurd z.2.1 b
    · exact absurd z.2.1 b
    · exact absurd z.2.1 b
    · exact absurd a1 z.1
  · rcases hs with z | z | z | z | z
    · exact absurd b z.2.1
    · rw [z.2.2.2.2.2.2.2, q]
    · exact absurd g z.2.2.1
    · exact absurd g z.2.2.1
    · exact absurd a1 z.1
  · rcases hs with z | z | z | z | z
    · exact absurd b z.2.1
    · exact absurd z.2.2.1 g
    · rw [z.2.2.2.2.2.2.2.2, q]
    · rw [z.2.2.2.2.2.2.2.2, q]
    · exact absurd a1 z.1
  · rcases hs with z | z | z | z | z
    · exact absurd z.1 a1
    · exact absurd z.1 a1
    · exact absurd z.1 a1
    · exact absurd z.1 a1
    · rw [z.2.2.2.2.2, q]
theorem zT_iff (h : ∀ a, a < n → zH F F2 u u2 w len a) : ∀ {m : Nat}, m ≤ n → ((¬ zT F u w F2 u2 i m = 0) ↔ ∃ a, a < m ∧ ¬ zG F u w a = 0 ∧ dAbt F2 u2 a 0 = dAbt F2 u2 i 0)
  | 0, _ => ⟨fun q => absurd rfl q, fun ⟨a, q, _⟩ => absurd q (Nat.not_lt_zero a)⟩
  | m + 1, hm => by
    have ih := zT_iff h (m := m) (by omega)
    have e : ∀ x, x < m + 1 → ¬ x = m → x < m := fun x h1 h2 => by omega
    by_cases c : zT F u w F2 u2 i m = 0
    · have no : ¬ ∃ a, a < m ∧ ¬ zG F u w a = 0 ∧ dAbt F2 u2 a 0 = dAbt F2 u2 i 0 := fun q => ih.mpr q c
      have red : (∃ a, a < m + 1 ∧ ¬ zG F u w a = 0 ∧ dAbt F2 u2 a 0 = dAbt F2 u2 i 0) ↔ (¬ zG F u w m = 0 ∧ dAbt F2 u2 m 0 = dAbt F2 u2 i 0) := by
        constructor
        · rintro ⟨a, a1, a2, a3⟩
          by_cases q : a = m
          · subst q; exact ⟨a2, a3⟩
          · exact absurd ⟨a, e a a1 q, a2, a3⟩ no
        · rintro ⟨a2, a3⟩
          exact ⟨m, by omega, a2, a3⟩
      rw [red, zT, if_pos c]
      have hz := h m (by omega)
      by_cases s : dAbt F u m 4 = 1
      · have s1 : ¬ zS F u m = 0 := by unfold zS; rw [if_pos s]; decide
        rw [if_pos s]
        by_cases d : dAbt F u m 3 = 0
        · rw [if_pos d]
          by_cases g : 30 < bHeel (F m) w
          · rw [if_pos g]
            have : zG F u w m = 0 := by unfold zG; rw [if_neg s1, if_pos d, if_pos g]
            exact ⟨fun q => absurd rfl q, fun q => absurd this q.1⟩
          · rw [if_neg g]
            have : zG F u w m = 1 := by unfold zG; rw [if_neg s1, if_pos d, if_neg g]
            by_cases y : dAbt F2 u2 m 0 = dAbt F2 u2 i 0
            · rw [if_pos y]; exact ⟨fun _ => ⟨by rw [this]; decide, y⟩, fun _ => by decide⟩
            · rw [if_neg y]; exact ⟨fun q => absurd rfl q, fun q => absurd q.2 y⟩
        · rw [if_neg d]
          have : zG F u w m = 0 := by unfold zG; rw [if_neg s1, if_neg d]
          exact ⟨fun q => absurd rfl q, fun q => absurd this q.1⟩
      · rw [if_neg s]
        have : zG F u w m = 0 := by unfold zG zS; rw [if_neg s, if_pos rfl]
        exact ⟨fun q => absurd rfl q, fun q => absurd this q.1⟩
    · rw [zT, if_neg c]
      refine ⟨fun _ => ?_, fun _ => by decide⟩
      obtain ⟨a, a1, a2⟩ := ih.mp c
      exact ⟨a, by omega, a2⟩
/-- a foul more, or none -/
theorem z_foul (hF2 : F2 = mF F u w ju k len n) (h : ∀ a, a < n → zH F F2 u u2 w len a) (hB : kB F n) (hj : ∀ j, j < k → ju j = ey j) (hi : i < n) :
    dAbt F2 u2 i 2 - dAbt F u i 2 = if (¬ zG F u w i = 0 ∧ ¬ zT F u w F2 u2 i i = 0 ∧ ¬ dAbt F2 u2 i 0 ≤ 0 ∧ ¬ rSee ey k (dAbt F2 u2 i 0) = 0) then 1 else 0 := by
  have hz := h i hi
  have ho0 : ¬ u 2 = 0 := by rw [hz.2.2.2]; decide
  have p5 : ∀ a, a < n → dAbt F2 u2 a 0 = bSail (F a) w 5 := fun a ha => by
    rw [(h a ha).2.2.1 0, hF2]
    exact k_5 ho0
  have e7 : F2 i 7 = if q_any (dHit (dSail F w) ju k i) i = true then F i 7 + 1 else F i 7 := by
    rw [hF2, k_7 ho0]
    unfold dFoul dFoulR
    have s7 : dSail F w i 7 = F i 7 := (k_sail (w := w) (hB i hi).1).1.2.2.2.2.2
    split
    · show upd (dSail F w i) 7 (dSail F w i 7 + 1) 7 = _
      rw [s7]; simp [upd]
    · exact s7
  have key : (q_any (dHit (dSail F w) ju k i) i = true) ↔ (¬ zG F u w i = 0 ∧ ¬ zT F u w F2 u2 i i = 0 ∧ ¬ dAbt F2 u2 i 0 ≤ 0 ∧ ¬ rSee ey k (dAbt F2 u2 i 0) = 0) := by
    rw [p_any]
    have see : bSee ju k (dSail F w i 5) = rSee ey k (dAbt F2 u2 i 0) := by rw [p_see hj, p5 i hi]; rfl
    constructor
    · rintro ⟨a, a1, a2⟩
      unfold dHit at a2
      rw [Bool.and_eq_true, decide_eq_true_eq, decide_eq_true_eq, z_bt, see] at a2
      obtain ⟨⟨b1, b2, b3, b4⟩, b5⟩ := a2
      have g1 := (z_went hz (hB i hi).1).mp b1
      have g2 := (z_went (h a (by omega)) (hB a (by omega)).1).mp b2
      refine ⟨g1, (zT_iff (i := i) h (Nat.le_of_lt hi)).mpr ⟨a, a1, g2, ?_⟩, ?_, b5⟩
      · rw [p5 a (by omega), p5 i hi]; exact b3.symm
      · rw [p5 i hi]; exact z_lt1.mp b4
    · rintro ⟨g1, t1, b4, b5⟩
      obtain ⟨a, a1, g2, a3⟩ := (zT_iff (i := i) h (Nat.le_of_lt hi)).mp t1
      refine ⟨a, a1, ?_⟩
      unfold dHit
      rw [Bool.and_eq_true, decide_eq_true_eq, decide_eq_true_eq, z_bt, see]
      refine ⟨⟨(z_went hz (hB i hi).1).mpr g1, (z_went (h a (by omega)) (hB a (by omega)).1).mpr g2, ?_, ?_⟩, b5⟩
      · rw [p5 a (by omega), p5 i hi] at a3; exact a3.symm
      · rw [p5 i hi] at b4; exact z_lt1.mpr b4
  rw [hz.2.2.1 2, hz.2.1 2]
  show F2 i 7 - F i 7 = _
  rw [e7]
  by_cases c : q_any (dHit (dSail F w) ju k i) i = true
  · rw [if_pos c, if_pos (key.mp c)]
    rw [Int32.add_comm, Int32.add_sub_cancel]
  · rw [if_neg c, if_neg (fun q => c (key.mpr q)), Int32.sub_self]
/-- how many come in -/
theorem z_now (hF2 : F2 = mF F u w ju k len n) (h : ∀ a, a < n → zH F F2 u u2 w len a) : mR1 F u w ju k len n = q_sum (zN F u F2 u2) n := by
  by_cases hn : n = 0
  · subst hn
    unfold mR1
    split <;> rfl
  have ho0 : ¬ u 2 = 0 := by rw [(h 0 (by omega)).2.2.2]; decide
  unfold mR1
  rw [if_neg ho0]
  unfold dRaceR
  refine q_sum_congr fun a ha => ?_
  have hz := h a ha
  have e9 := k_9 (F := F) (u := u) (w := w) (ju := ju) (k := k) (len := len) (n := n) (b := a) ho0
  rw [← hF2] at e9
  unfold zN dArr bInR
  rw [hz.2.1 4, hz.2.2.1 4, k_foul (by decide), k_foul (by decide)]
  show (if (if dSail F w a 9 = 1 then if len ≤ dSail F w a 5 then (1 : Int32) else 0 else 0) = 0 then (0 : Int32) else 1) = if F2 a 9 = 2 then (if F a 9 = 1 then 1 else 0) else 0
  rcases hz.1 with z | z | z | z | z
  · rw [if_neg (show ¬ F2 a 9 = 2 from by rw [z.2.2.2.2.2.2]; decide)]
    have : ¬ (dSail F w a 9 = 1 ∧ len ≤ dSail F w a 5) := fun q => by
      rw [show bSail (F a) w 9 = 1 from q.1, if_pos rfl, if_pos (show len ≤ bSail (F a) w 5 from q.2)] at e9
      rw [z.2.2.2.2.2.2] at e9; exact absurd e9 (by decide)
    by_cases c : dSail F w a 9 = 1
    · rw [if_pos c, if_neg (fun q => this ⟨c, q⟩), if_pos rfl]
    · rw [if_neg c, if_pos rfl]
  · rcases z.2.2.2.2.2.2 with y | y
    · rw [if_pos y.2.1, if_pos z.1]
      have c : dSail F w a 9 = 1 := by
        by_cases c : dSail F w a 9 = 1
        · exact c
        · rw [if_neg (show ¬ bSail (F a) w 9 = 1 from c), y.2.1] at e9
          obtain ⟨-, hs⟩ := k_sail (w := w) (r := F a) (Or.inl z.2.1)
          rcases hs with t | t | t | t | t
          · exact absurd z.2.1 t.2.1
          · exact t.2.2.2.2.2.2.1
          · exact absurd z.2.2.1 t.2.2.1
          · exact absurd z.2.2.1 t.2.2.1
          · exact absurd z.1 t.1
      have d : len ≤ dSail F w a 5 := by
        by_cases d : len ≤ dSail F w a 5
        · exact d
        · rw [show bSail (F a) w 9 = 1 from c, if_pos rfl, if_neg (show ¬ len ≤ bSail (F a) w 5 from d), y.2.1] at e9
          exact absurd e9 (by decide)
      rw [if_pos c, if_pos d, if_neg (by decide)]
    · rw [if_neg (show ¬ F2 a 9 = 2 from by rw [y.2.1]; decide)]
      have : ¬ (dSail F w a 9 = 1 ∧ len ≤ dSail F w a 5) := fun q => by
        rw [show bSail (F a) w 9 = 1 from q.1, if_pos rfl, if_pos (show len ≤ bSail (F a) w 5 from q.2)] at e9
        rw [y.2.1] at e9; exact absurd e9 (by decide)
      by_cases c : dSail F w a 9 = 1
      · rw [if_pos c, if_neg (fun q => this ⟨c, q⟩), if_pos rfl]
      · rw [if_neg c, if_pos rfl]
  · rw [if_neg (show ¬ F2 a 9 = 2 from by rw [z.2.2.2.2.2.2.2.2]; decide)]
    have : ¬ (dSail F w a 9 = 1 ∧ len ≤ dSail F w a 5) := fun q => by
      rw [show bSail (F a) w 9 = 1 from q.1, if_pos rfl, if_pos (show len ≤ bSail (F a) w 5 from q.2)] at e9
      rw [z.2.2.2.2.2.2.2.2] at e9; exact absurd e9 (by decide)
    by_cases c : dSail F w a 9 = 1
    · rw [if_pos c, if_neg (fun q => this ⟨c, q⟩), if_pos rfl]
    · rw [if_neg c, if_pos rfl]
  · rw [if_neg (show ¬ F2 a 9 = 2 from by rw [z.2.2.2.2.2.2.2.2]; decide)]
    have : ¬ (dSail F w a 9 = 1 ∧ len ≤ dSail F w a 5) := fun q => by
      rw [show bSail (F a) w 9 = 1 from q.1, if_pos rfl, if_pos (show len ≤ bSail (F a) w 5 from q.2)] at e9
      rw [z.2.2.2.2.2.2.2.2] at e9; exact absurd e9 (by decide)
    by_cases c : dSail F w a 9 = 1
    · rw [if_pos c, if_neg (fun q => this ⟨c, q⟩), if_pos rfl]
    · rw [if_neg c, if_pos rfl]
  · have c : ¬ dSail F w a 9 = 1 := by
      show ¬ bSail (F a) w 9 = 1
      unfold bSail
      rw [if_neg z.1]
      exact z.1
    rw [if_neg c, if_pos rfl, if_neg z.1]
    split <;> rfl
end ZD

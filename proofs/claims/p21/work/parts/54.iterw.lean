theorem s_zI1 {F2 : Nat → Nat → Int32} {u2 : Nat → Int32} {i : Nat} (h : ¬ zI F2 u2 i = 0) : dAbt F2 u2 i 4 = 2 := by
  unfold zI at h
  by_cases c : dAbt F2 u2 i 4 = 2
  · exact c
  · exact absurd (if_neg c) h
theorem s_zI0 {F2 : Nat → Nat → Int32} {u2 : Nat → Int32} {i : Nat} (h : zI F2 u2 i = 0) : ¬ dAbt F2 u2 i 4 = 2 := fun c => by
  unfold zI at h
  rw [if_pos c] at h
  exact absurd h (by decide)
theorem s_c01 {v : Int32} (h : ¬ (if v = 0 then (0 : Int32) else 1) = 0) : ¬ v = 0 := fun q => h (if_pos q)
theorem s_c00 {v : Int32} (h : (if v = 0 then (0 : Int32) else 1) = 0) : v = 0 := by
  by_cases q : v = 0
  · exact q
  · rw [if_neg q] at h; exact absurd h (by decide)
theorem s_v0 {v : Int32} (h : (if v = 0 then (1 : Int32) else 0) = 0) : ¬ v = 0 := fun q => by rw [if_pos q] at h; exact absurd h (by decide)
theorem s_v1 {v : Int32} (h : ¬ (if v = 0 then (1 : Int32) else 0) = 0) : v = 0 := by
  by_cases q : v = 0
  · exact q
  · exact absurd (if_neg q) h
theorem s_hrl {F F2 : Nat → Nat → Int32} {i o : Nat} {w w2 : Int32} (h : F2 i 0 = F i 0 ∧ F2 i 1 = F i 1 ∧ F2 i 2 = F i 2) (ho : o < 3) : qTold F2 i o w2 = zT1 F w i o := by
  match o, ho with
  | 0, _ => exact h.1
  | 1, _ => exact h.2.1
  | 2, _ => exact h.2.2
